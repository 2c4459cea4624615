/-! pure rows: small functions -/
/-- a call that answers -/
theorem bs1 {α γ : Type} (a : α) (f : α → Option γ) : bn1 (some a) f = f a := rfl
theorem bs2 {A0 A1 γ : Type} (a0 : A0) (a1 : A1) (f : A0 → A1 → Option γ) : bn2 (some (a0, a1)) f = f a0 a1 := rfl
theorem bs3 {A0 A1 A2 γ : Type} (a0 : A0) (a1 : A1) (a2 : A2) (f : A0 → A1 → A2 → Option γ) : bn3 (some (a0, a1, a2)) f = f a0 a1 a2 := rfl
theorem bs4 {A0 A1 A2 A3 γ : Type} (a0 : A0) (a1 : A1) (a2 : A2) (a3 : A3) (f : A0 → A1 → A2 → A3 → Option γ) : bn4 (some (a0, a1, a2, a3)) f = f a0 a1 a2 a3 := rfl
theorem bs5 {A0 A1 A2 A3 A4 γ : Type} (a0 : A0) (a1 : A1) (a2 : A2) (a3 : A3) (a4 : A4) (f : A0 → A1 → A2 → A3 → A4 → Option γ) : bn5 (some (a0, a1, a2, a3, a4)) f = f a0 a1 a2 a3 a4 := rfl
theorem bs6 {A0 A1 A2 A3 A4 A5 γ : Type} (a0 : A0) (a1 : A1) (a2 : A2) (a3 : A3) (a4 : A4) (a5 : A5) (f : A0 → A1 → A2 → A3 → A4 → A5 → Option γ) : bn6 (some (a0, a1, a2, a3, a4, a5)) f = f a0 a1 a2 a3 a4 a5 := rfl
theorem bs7 {A0 A1 A2 A3 A4 A5 A6 γ : Type} (a0 : A0) (a1 : A1) (a2 : A2) (a3 : A3) (a4 : A4) (a5 : A5) (a6 : A6) (f : A0 → A1 → A2 → A3 → A4 → A5 → A6 → Option γ) : bn7 (some (a0, a1, a2, a3, a4, a5, a6)) f = f a0 a1 a2 a3 a4 a5 a6 := rfl
theorem bs8 {A0 A1 A2 A3 A4 A5 A6 A7 γ : Type} (a0 : A0) (a1 : A1) (a2 : A2) (a3 : A3) (a4 : A4) (a5 : A5) (a6 : A6) (a7 : A7) (f : A0 → A1 → A2 → A3 → A4 → A5 → A6 → A7 → Option γ) : bn8 (some (a0, a1, a2, a3, a4, a5, a6, a7)) f = f a0 a1 a2 a3 a4 a5 a6 a7 := rfl
theorem bs9 {A0 A1 A2 A3 A4 A5 A6 A7 A8 γ : Type} (a0 : A0) (a1 : A1) (a2 : A2) (a3 : A3) (a4 : A4) (a5 : A5) (a6 : A6) (a7 : A7) (a8 : A8) (f : A0 → A1 → A2 → A3 → A4 → A5 → A6 → A7 → A8 → Option γ) : bn9 (some (a0, a1, a2, a3, a4, a5, a6, a7, a8)) f = f a0 a1 a2 a3 a4 a5 a6 a7 a8 := rfl
theorem bs10 {A0 A1 A2 A3 A4 A5 A6 A7 A8 A9 γ : Type} (a0 : A0) (a1 : A1) (a2 : A2) (a3 : A3) (a4 : A4) (a5 : A5) (a6 : A6) (a7 : A7) (a8 : A8) (a9 : A9) (f : A0 → A1 → A2 → A3 → A4 → A5 → A6 → A7 → A8 → A9 → Option γ) : bn10 (some (a0, a1, a2, a3, a4, a5, a6, a7, a8, a9)) f = f a0 a1 a2 a3 a4 a5 a6 a7 a8 a9 := rfl
theorem bs11 {A0 A1 A2 A3 A4 A5 A6 A7 A8 A9 A10 γ : Type} (a0 : A0) (a1 : A1) (a2 : A2) (a3 : A3) (a4 : A4) (a5 : A5) (a6 : A6) (a7 : A7) (a8 : A8) (a9 : A9) (a10 : A10) (f : A0 → A1 → A2 → A3 → A4 → A5 → A6 → A7 → A8 → A9 → A10 → Option γ) : bn11 (some (a0, a1, a2, a3, a4, a5, a6, a7, a8, a9, a10)) f = f a0 a1 a2 a3 a4 a5 a6 a7 a8 a9 a10 := rfl
theorem bs12 {A0 A1 A2 A3 A4 A5 A6 A7 A8 A9 A10 A11 γ : Type} (a0 : A0) (a1 : A1) (a2 : A2) (a3 : A3) (a4 : A4) (a5 : A5) (a6 : A6) (a7 : A7) (a8 : A8) (a9 : A9) (a10 : A10) (a11 : A11) (f : A0 → A1 → A2 → A3 → A4 → A5 → A6 → A7 → A8 → A9 → A10 → A11 → Option γ) : bn12 (some (a0, a1, a2, a3, a4, a5, a6, a7, a8, a9, a10, a11)) f = f a0 a1 a2 a3 a4 a5 a6 a7 a8 a9 a10 a11 := rfl
theorem bs13 {A0 A1 A2 A3 A4 A5 A6 A7 A8 A9 A10 A11 A12 γ : Type} (a0 : A0) (a1 : A1) (a2 : A2) (a3 : A3) (a4 : A4) (a5 : A5) (a6 : A6) (a7 : A7) (a8 : A8) (a9 : A9) (a10 : A10) (a11 : A11) (a12 : A12) (f : A0 → A1 → A2 → A3 → A4 → A5 → A6 → A7 → A8 → A9 → A10 → A11 → A12 → Option γ) : bn13 (some (a0, a1, a2, a3, a4, a5, a6, a7, a8, a9, a10, a11, a12)) f = f a0 a1 a2 a3 a4 a5 a6 a7 a8 a9 a10 a11 a12 := rfl
theorem bs14 {A0 A1 A2 A3 A4 A5 A6 A7 A8 A9 A10 A11 A12 A13 γ : Type} (a0 : A0) (a1 : A1) (a2 : A2) (a3 : A3) (a4 : A4) (a5 : A5) (a6 : A6) (a7 : A7) (a8 : A8) (a9 : A9) (a10 : A10) (a11 : A11) (a12 : A12) (a13 : A13) (f : A0 → A1 → A2 → A3 → A4 → A5 → A6 → A7 → A8 → A9 → A10 → A11 → A12 → A13 → Option γ) : bn14 (some (a0, a1, a2, a3, a4, a5, a6, a7, a8, a9, a10, a11, a12, a13)) f = f a0 a1 a2 a3 a4 a5 a6 a7 a8 a9 a10 a11 a12 a13 := rfl
theorem bs15 {A0 A1 A2 A3 A4 A5 A6 A7 A8 A9 A10 A11 A12 A13 A14 γ : Type} (a0 : A0) (a1 : A1) (a2 : A2) (a3 : A3) (a4 : A4) (a5 : A5) (a6 : A6) (a7 : A7) (a8 : A8) (a9 : A9) (a10 : A10) (a11 : A11) (a12 : A12) (a13 : A13) (a14 : A14) (f : A0 → A1 → A2 → A3 → A4 → A5 → A6 → A7 → A8 → A9 → A10 → A11 → A12 → A13 → A14 → Option γ) : bn15 (some (a0, a1, a2, a3, a4, a5, a6, a7, a8, a9, a10, a11, a12, a13, a14)) f = f a0 a1 a2 a3 a4 a5 a6 a7 a8 a9 a10 a11 a12 a13 a14 := rfl
theorem bs16 {A0 A1 A2 A3 A4 A5 A6 A7 A8 A9 A10 A11 A12 A13 A14 A15 γ : Type} (a0 : A0) (a1 : A1) (a2 : A2) (a3 : A3) (a4 : A4) (a5 : A5) (a6 : A6) (a7 : A7) (a8 : A8) (a9 : A9) (a10 : A10) (a11 : A11) (a12 : A12) (a13 : A13) (a14 : A14) (a15 : A15) (f : A0 → A1 → A2 → A3 → A4 → A5 → A6 → A7 → A8 → A9 → A10 → A11 → A12 → A13 → A14 → A15 → Option γ) : bn16 (some (a0, a1, a2, a3, a4, a5, a6, a7, a8, a9, a10, a11, a12, a13, a14, a15)) f = f a0 a1 a2 a3 a4 a5 a6 a7 a8 a9 a10 a11 a12 a13 a14 a15 := rfl
theorem bs17 {A0 A1 A2 A3 A4 A5 A6 A7 A8 A9 A10 A11 A12 A13 A14 A15 A16 γ : Type} (a0 : A0) (a1 : A1) (a2 : A2) (a3 : A3) (a4 : A4) (a5 : A5) (a6 : A6) (a7 : A7) (a8 : A8) (a9 : A9) (a10 : A10) (a11 : A11) (a12 : A12) (a13 : A13) (a14 : A14) (a15 : A15) (a16 : A16) (f : A0 → A1 → A2 → A3 → A4 → A5 → A6 → A7 → A8 → A9 → A10 → A11 → A12 → A13 → A14 → A15 → A16 → Option γ) : bn17 (some (a0, a1, a2, a3, a4, a5, a6, a7, a8, a9, a10, a11, a12, a13, a14, a15, a16)) f = f a0 a1 a2 a3 a4 a5 a6 a7 a8 a9 a10 a11 a12 a13 a14 a15 a16 := rfl
theorem bs18 {A0 A1 A2 A3 A4 A5 A6 A7 A8 A9 A10 A11 A12 A13 A14 A15 A16 A17 γ : Type} (a0 : A0) (a1 : A1) (a2 : A2) (a3 : A3) (a4 : A4) (a5 : A5) (a6 : A6) (a7 : A7) (a8 : A8) (a9 : A9) (a10 : A10) (a11 : A11) (a12 : A12) (a13 : A13) (a14 : A14) (a15 : A15) (a16 : A16) (a17 : A17) (f : A0 → A1 → A2 → A3 → A4 → A5 → A6 → A7 → A8 → A9 → A10 → A11 → A12 → A13 → A14 → A15 → A16 → A17 → Option γ) : bn18 (some (a0, a1, a2, a3, a4, a5, a6, a7, a8, a9, a10, a11, a12, a13, a14, a15, a16, a17)) f = f a0 a1 a2 a3 a4 a5 a6 a7 a8 a9 a10 a11 a12 a13 a14 a15 a16 a17 := rfl
theorem bs19 {A0 A1 A2 A3 A4 A5 A6 A7 A8 A9 A10 A11 A12 A13 A14 A15 A16 A17 A18 γ : Type} (a0 : A0) (a1 : A1) (a2 : A2) (a3 : A3) (a4 : A4) (a5 : A5) (a6 : A6) (a7 : A7) (a8 : A8) (a9 : A9) (a10 : A10) (a11 : A11) (a12 : A12) (a13 : A13) (a14 : A14) (a15 : A15) (a16 : A16) (a17 : A17) (a18 : A18) (f : A0 → A1 → A2 → A3 → A4 → A5 → A6 → A7 → A8 → A9 → A10 → A11 → A12 → A13 → A14 → A15 → A16 → A17 → A18 → Option γ) : bn19 (some (a0, a1, a2, a3, a4, a5, a6, a7, a8, a9, a10, a11, a12, a13, a14, a15, a16, a17, a18)) f = f a0 a1 a2 a3 a4 a5 a6 a7 a8 a9 a10 a11 a12 a13 a14 a15 a16 a17 a18 := rfl
theorem bs20 {A0 A1 A2 A3 A4 A5 A6 A7 A8 A9 A10 A11 A12 A13 A14 A15 A16 A17 A18 A19 γ : Type} (a0 : A0) (a1 : A1) (a2 : A2) (a3 : A3) (a4 : A4) (a5 : A5) (a6 : A6) (a7 : A7) (a8 : A8) (a9 : A9) (a10 : A10) (a11 : A11) (a12 : A12) (a13 : A13) (a14 : A14) (a15 : A15) (a16 : A16) (a17 : A17) (a18 : A18) (a19 : A19) (f : A0 → A1 → A2 → A3 → A4 → A5 → A6 → A7 → A8 → A9 → A10 → A11 → A12 → A13 → A14 → A15 → A16 → A17 → A18 → A19 → Option γ) : bn20 (some (a0, a1, a2, a3, a4, a5, a6, a7, a8, a9, a10, a11, a12, a13, a14, a15, a16, a17, a18, a19)) f = f a0 a1 a2 a3 a4 a5 a6 a7 a8 a9 a10 a11 a12 a13 a14 a15 a16 a17 a18 a19 := rfl
theorem bs21 {A0 A1 A2 A3 A4 A5 A6 A7 A8 A9 A10 A11 A12 A13 A14 A15 A16 A17 A18 A19 A20 γ : Type} (a0 : A0) (a1 : A1) (a2 : A2) (a3 : A3) (a4 : A4) (a5 : A5) (a6 : A6) (a7 : A7) (a8 : A8) (a9 : A9) (a10 : A10) (a11 : A11) (a12 : A12) (a13 : A13) (a14 : A14) (a15 : A15) (a16 : A16) (a17 : A17) (a18 : A18) (a19 : A19) (a20 : A20) (f : A0 → A1 → A2 → A3 → A4 → A5 → A6 → A7 → A8 → A9 → A10 → A11 → A12 → A13 → A14 → A15 → A16 → A17 → A18 → A19 → A20 → Option γ) : bn21 (some (a0, a1, a2, a3, a4, a5, a6, a7, a8, a9, a10, a11, a12, a13, a14, a15, a16, a17, a18, a19, a20)) f = f a0 a1 a2 a3 a4 a5 a6 a7 a8 a9 a10 a11 a12 a13 a14 a15 a16 a17 a18 a19 a20 := rfl
theorem bs22 {A0 A1 A2 A3 A4 A5 A6 A7 A8 A9 A10 A11 A12 A13 A14 A15 A16 A17 A18 A19 A20 A21 γ : Type} (a0 : A0) (a1 : A1) (a2 : A2) (a3 : A3) (a4 : A4) (a5 : A5) (a6 : A6) (a7 : A7) (a8 : A8) (a9 : A9) (a10 : A10) (a11 : A11) (a12 : A12) (a13 : A13) (a14 : A14) (a15 : A15) (a16 : A16) (a17 : A17) (a18 : A18) (a19 : A19) (a20 : A20) (a21 : A21) (f : A0 → A1 → A2 → A3 → A4 → A5 → A6 → A7 → A8 → A9 → A10 → A11 → A12 → A13 → A14 → A15 → A16 → A17 → A18 → A19 → A20 → A21 → Option γ) : bn22 (some (a0, a1, a2, a3, a4, a5, a6, a7, a8, a9, a10, a11, a12, a13, a14, a15, a16, a17, a18, a19, a20, a21)) f = f a0 a1 a2 a3 a4 a5 a6 a7 a8 a9 a10 a11 a12 a13 a14 a15 a16 a17 a18 a19 a20 a21 := rfl
theorem bs23 {A0 A1 A2 A3 A4 A5 A6 A7 A8 A9 A10 A11 A12 A13 A14 A15 A16 A17 A18 A19 A20 A21 A22 γ : Type} (a0 : A0) (a1 : A1) (a2 : A2) (a3 : A3) (a4 : A4) (a5 : A5) (a6 : A6) (a7 : A7) (a8 : A8) (a9 : A9) (a10 : A10) (a11 : A11) (a12 : A12) (a13 : A13) (a14 : A14) (a15 : A15) (a16 : A16) (a17 : A17) (a18 : A18) (a19 : A19) (a20 : A20) (a21 : A21) (a22 : A22) (f : A0 → A1 → A2 → A3 → A4 → A5 → A6 → A7 → A8 → A9 → A10 → A11 → A12 → A13 → A14 → A15 → A16 → A17 → A18 → A19 → A20 → A21 → A22 → Option γ) : bn23 (some (a0, a1, a2, a3, a4, a5, a6, a7, a8, a9, a10, a11, a12, a13, a14, a15, a16, a17, a18, a19, a20, a21, a22)) f = f a0 a1 a2 a3 a4 a5 a6 a7 a8 a9 a10 a11 a12 a13 a14 a15 a16 a17 a18 a19 a20 a21 a22 := rfl
theorem bs24 {A0 A1 A2 A3 A4 A5 A6 A7 A8 A9 A10 A11 A12 A13 A14 A15 A16 A17 A18 A19 A20 A21 A22 A23 γ : Type} (a0 : A0) (a1 : A1) (a2 : A2) (a3 : A3) (a4 : A4) (a5 : A5) (a6 : A6) (a7 : A7) (a8 : A8) (a9 : A9) (a10 : A10) (a11 : A11) (a12 : A12) (a13 : A13) (a14 : A14) (a15 : A15) (a16 : A16) (a17 : A17) (a18 : A18) (a19 : A19) (a20 : A20) (a21 : A21) (a22 : A22) (a23 : A23) (f : A0 → A1 → A2 → A3 → A4 → A5 → A6 → A7 → A8 → A9 → A10 → A11 → A12 → A13 → A14 → A15 → A16 → A17 → A18 → A19 → A20 → A21 → A22 → A23 → Option γ) : bn24 (some (a0, a1, a2, a3, a4, a5, a6, a7, a8, a9, a10, a11, a12, a13, a14, a15, a16, a17, a18, a19, a20, a21, a22, a23)) f = f a0 a1 a2 a3 a4 a5 a6 a7 a8 a9 a10 a11 a12 a13 a14 a15 a16 a17 a18 a19 a20 a21 a22 a23 := rfl
theorem bs25 {A0 A1 A2 A3 A4 A5 A6 A7 A8 A9 A10 A11 A12 A13 A14 A15 A16 A17 A18 A19 A20 A21 A22 A23 A24 γ : Type} (a0 : A0) (a1 : A1) (a2 : A2) (a3 : A3) (a4 : A4) (a5 : A5) (a6 : A6) (a7 : A7) (a8 : A8) (a9 : A9) (a10 : A10) (a11 : A11) (a12 : A12) (a13 : A13) (a14 : A14) (a15 : A15) (a16 : A16) (a17 : A17) (a18 : A18) (a19 : A19) (a20 : A20) (a21 : A21) (a22 : A22) (a23 : A23) (a24 : A24) (f : A0 → A1 → A2 → A3 → A4 → A5 → A6 → A7 → A8 → A9 → A10 → A11 → A12 → A13 → A14 → A15 → A16 → A17 → A18 → A19 → A20 → A21 → A22 → A23 → A24 → Option γ) : bn25 (some (a0, a1, a2, a3, a4, a5, a6, a7, a8, a9, a10, a11, a12, a13, a14, a15, a16, a17, a18, a19, a20, a21, a22, a23, a24)) f = f a0 a1 a2 a3 a4 a5 a6 a7 a8 a9 a10 a11 a12 a13 a14 a15 a16 a17 a18 a19 a20 a21 a22 a23 a24 := rfl
theorem bs26 {A0 A1 A2 A3 A4 A5 A6 A7 A8 A9 A10 A11 A12 A13 A14 A15 A16 A17 A18 A19 A20 A21 A22 A23 A24 A25 γ : Type} (a0 : A0) (a1 : A1) (a2 : A2) (a3 : A3) (a4 : A4) (a5 : A5) (a6 : A6) (a7 : A7) (a8 : A8) (a9 : A9) (a10 : A10) (a11 : A11) (a12 : A12) (a13 : A13) (a14 : A14) (a15 : A15) (a16 : A16) (a17 : A17) (a18 : A18) (a19 : A19) (a20 : A20) (a21 : A21) (a22 : A22) (a23 : A23) (a24 : A24) (a25 : A25) (f : A0 → A1 → A2 → A3 → A4 → A5 → A6 → A7 → A8 → A9 → A10 → A11 → A12 → A13 → A14 → A15 → A16 → A17 → A18 → A19 → A20 → A21 → A22 → A23 → A24 → A25 → Option γ) : bn26 (some (a0, a1, a2, a3, a4, a5, a6, a7, a8, a9, a10, a11, a12, a13, a14, a15, a16, a17, a18, a19, a20, a21, a22, a23, a24, a25)) f = f a0 a1 a2 a3 a4 a5 a6 a7 a8 a9 a10 a11 a12 a13 a14 a15 a16 a17 a18 a19 a20 a21 a22 a23 a24 a25 := rfl
theorem i2l_lt {a b : Int32} : a.toInt64 < b.toInt64 ↔ a < b := by
  rw [Int64.lt_iff_toInt_lt, Int32.lt_iff_toInt_lt, Int32.toInt_toInt64, Int32.toInt_toInt64]
theorem i2l_eq {a b : Int32} : a.toInt64 = b.toInt64 ↔ a = b := by
  rw [← Int64.toInt_inj, ← Int32.toInt_inj, Int32.toInt_toInt64, Int32.toInt_toInt64]
theorem q_isBeyond (a b c : Int32) : f_X8_isBeyond a b c = some (if a < b ∨ c < a then 1 else 0) := by
  unfold f_X8_isBeyond
  by_cases h1 : a < b
  · simp [h1]
  · by_cases h2 : a ≤ c
    · have h3 : ¬ c < a := Int32.not_lt.mpr h2
      simp [h1, h2, h3]
    · have h3 : c < a := Int32.not_le.mp h2
      simp [h1, h2, h3]
theorem q_in (a b c : Int64) : f_X9_in a b c = some (if a < b ∨ c < a then 0 else 1) := by
  unfold f_X9_in
  simp only [lg_cmp_lt, lg_cmp_gt]
  by_cases h1 : a < b <;> by_cases h2 : c < a <;> simp [h1, h2]
theorem q_inL (a : Int32) {lo hi : Int64} (l h : Int32) (e1 : l.toInt64 = lo) (e2 : h.toInt64 = hi) : f_X9_in a.toInt64 lo hi = some (if a < l ∨ h < a then 0 else 1) := by
  subst e1
  subst e2
  rw [q_in]
  simp only [i2l_lt]
theorem o01 {c : Prop} [Decidable c] : ((if c then (1 : Int32) else 0) = 0 ∨ (if c then (1 : Int32) else 0) = 1) := by
  by_cases h : c <;> simp [h]
theorem o10 {c : Prop} [Decidable c] : ((if c then (0 : Int32) else 1) = 0 ∨ (if c then (0 : Int32) else 1) = 1) := by
  by_cases h : c <;> simp [h]
theorem q_isNoSet (a : Int32) : f_X8_isNoSet a = some (if a < 0 ∨ 4095 < a then 1 else 0) := by
  unfold f_X8_isNoSet
  rw [q_isBeyond]
  exact if_pos o01
theorem q_isNoRate (a : Int32) : f_X8_isNoRate a = some (if a < 0 ∨ 9 < a then 1 else 0) := by
  unfold f_X8_isNoRate
  rw [q_isBeyond]
  exact if_pos o01
theorem q_isNoPart (a : Int32) : f_X8_isNoPart a = some (if a < 0 ∨ 1 < a then 1 else 0) := by
  unfold f_X8_isNoPart
  rw [q_isBeyond]
  exact if_pos o01
theorem q_isNoPlace (a : Int32) : f_X8_isNoPlaceOnLine a = some (if a < -60 ∨ 60 < a then 1 else 0) := by
  unfold f_X8_isNoPlaceOnLine
  rw [q_isBeyond]
  exact if_pos o01
theorem q_isNoRack (a : Int32) : f_X8_isNoRack a = some (if a < 0 ∨ 2 < a then 1 else 0) := by
  unfold f_X8_isNoRack
  rw [q_isBeyond]
  exact if_pos o01
theorem q_isNoSheet (a : Int32) : f_X8_isNoSheet a = some (if a < 0 ∨ 3 < a then 1 else 0) := by
  unfold f_X8_isNoSheet
  rw [q_isBeyond]
  exact if_pos o01
theorem q_isOut (a : Int32) : f_X9_isOut a = some (if a < 0 ∨ 4095 < a then 0 else 1) := by
  unfold f_X9_isOut
  rw [q_inL a (lo := 0) (hi := 4095) 0 4095 rfl rfl]
  exact if_pos o10
theorem q_isRate (a : Int32) : f_X9_isRate a = some (if a < 0 ∨ 9 < a then 0 else 1) := by
  unfold f_X9_isRate
  rw [q_inL a (lo := 0) (hi := 9) 0 9 rfl rfl]
  exact if_pos o10
theorem q_isSheet (a : Int32) : f_X9_isSheet a = some (if a < 0 ∨ 3 < a then 0 else 1) := by
  unfold f_X9_isSheet
  rw [q_inL a (lo := 0) (hi := 3) 0 3 rfl rfl]
  exact if_pos o10
theorem q_isPoint (n a : Int32) : f_X9_isPoint n a = some (if a < 0 ∨ n - 1 < a then 0 else 1) := by
  unfold f_X9_isPoint
  rw [q_inL a (lo := 0) (hi := (n - 1).toInt64) 0 (n - 1) rfl rfl]
  exact if_pos o10
theorem q_isLine (n a : Int32) : f_X9_isLine n a = some (if a < 0 ∨ n - 1 < a then 0 else 1) := by
  unfold f_X9_isLine
  rw [q_inL a (lo := 0) (hi := (n - 1).toInt64) 0 (n - 1) rfl rfl]
  exact if_pos o10
theorem q_hasPoint (n a : Int32) : f_X1_hasPoint n a = some (if a < 0 ∨ n ≤ a then 0 else 1) := by
  unfold f_X1_hasPoint
  by_cases h1 : a < 0 <;> by_cases h2 : n ≤ a <;> simp [h1, h2]
theorem q_hasLine (n a : Int32) : f_X1_hasLine n a = some (if a < 0 ∨ n ≤ a then 0 else 1) := by
  unfold f_X1_hasLine
  by_cases h1 : a < 0 <;> by_cases h2 : n ≤ a <;> simp [h1, h2]
/-- n - 1 < a and n ≤ a are one for n that isn't less than nothing -/
theorem pred_lt {n : Nat} (hn : n < 2 ^ 30) (a : Int32) : nI n - 1 < a ↔ nI n ≤ a := by
  rw [Int32.lt_iff_toInt_lt, Int32.le_iff_toInt_le]
  have h1 := pk_sub_toInt (a := n) (b := 1) hn (by decide)
  have h2 : (nI n).toInt = n := nI_toInt (by omega)
  have h3 : (nI n - 1 : Int32) = nI n - nI 1 := rfl
  rw [h3, h1, h2]
  omega
/-- an index of n places, or none of them -/
theorem ix_cases (a : Int32) {n : Nat} (hn : n < 2 ^ 31) : ((a < 0 ∨ nI n ≤ a) ∧ ¬ ∃ j, j < n ∧ a = nI j) ∨ ∃ j, j < n ∧ a = nI j ∧ ¬ (a < 0 ∨ nI n ≤ a) := by
  rcases pk_ix a hn with h | h | ⟨j, hj, rfl⟩
  · exact Or.inl ⟨Or.inl h, fun ⟨j, hj, e⟩ => absurd h (by rw [e]; exact nI_pos (by omega))⟩
  · exact Or.inl ⟨Or.inr h, fun ⟨j, hj, e⟩ => absurd h (by rw [e]; exact nI_ge hj hn)⟩
  · exact Or.inr ⟨j, hj, rfl, fun h => h.elim (nI_pos (by omega)) (nI_ge hj hn)⟩
/-- a guard of an array: within, it lets by -/
theorem gN {α : Type} {n N : Nat} (h : n < N) (hN : N < 2 ^ 31) {x : Option α} : (if nI n < 0 ∨ N ≤ (nI n).toNatClampNeg then none else x) = x := if_neg (nI_in h hN)
/-- the WEIGHT -/
theorem q_weights {k f t : Int32} (hf : ¬ f < 0) (hf2 : f ≤ 9999) (ht : ¬ t < 0) (ht2 : t ≤ 9) : f_X8_weightBy k f t = f_X9_weighs t k f := by
  unfold f_X8_weightBy f_X9_weighs
  have e : ∀ x : Int32, f_X9_weighs_b18 t k f x = if k = 1 then some (2 * f) else if k = 2 then some x else if k = 3 then some (2 * f + t) else if k = 4 then some (x / 2) else if k = 5 then (if (t - t / 2 * 2) = 0 then some f else some 1) else some f := by
    intro x
    unfold f_X9_weighs_b18
    rfl
  rw [e, e]
  have h0 : (0 : Int32) < f - t ↔ ¬ f ≤ t := by
    rw [Int32.lt_iff_toInt_lt, Int32.le_iff_toInt_le]
    rw [Int32.lt_iff_toInt_lt] at hf ht
    rw [Int32.le_iff_toInt_le] at hf2 ht2
    have z0 : (0 : Int32).toInt = 0 := rfl
    have z1 : (9999 : Int32).toInt = 9999 := rfl
    have z2 : (9 : Int32).toInt = 9 := rfl
    have h3 : (f - t).toInt = f.toInt - t.toInt := by
      rw [Int32.toInt_sub]
      exact Int.bmod_eq_of_le (by omega) (by omega)
    omega
  by_cases h : f ≤ t
  · have h1 : ¬ (0 : Int32) < f - t := fun q => (h0.mp q) h
    simp [h, h1]
  · have h1 : (0 : Int32) < f - t := h0.mpr h
    simp [h, h1]
