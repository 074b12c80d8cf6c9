def WF0 (μ : mM) (a : Nat) : Prop := kd μ a = (0, 0) ∧ rv μ a 0 = some (a + 1) ∧ kd μ (a + 1) = (1, 6) ∧ rv μ a 1 = some (a + 2) ∧ kd μ (a + 2) = (1, 6)
theorem w0_kd {μ : mM} {a : Nat} (h : WF0 μ a) : kd μ a = (0, 0) := h.1
theorem w0_f0 {μ : mM} {a : Nat} (h : WF0 μ a) : rv μ a 0 = some (a + 1) := h.2.1
theorem w0_k0 {μ : mM} {a : Nat} (h : WF0 μ a) : kd μ (a + 1) = (1, 6) := h.2.2.1
theorem w0_f1 {μ : mM} {a : Nat} (h : WF0 μ a) : rv μ a 1 = some (a + 2) := h.2.2.2.1
theorem w0_k1 {μ : mM} {a : Nat} (h : WF0 μ a) : kd μ (a + 2) = (1, 6) := h.2.2.2.2
def WF1 (μ : mM) (a : Nat) : Prop := kd μ a = (0, 1) ∧ rv μ a 0 = some (a + 1) ∧ kd μ (a + 1) = (1, 6)
theorem w1_kd {μ : mM} {a : Nat} (h : WF1 μ a) : kd μ a = (0, 1) := h.1
theorem w1_f0 {μ : mM} {a : Nat} (h : WF1 μ a) : rv μ a 0 = some (a + 1) := h.2.1
theorem w1_k0 {μ : mM} {a : Nat} (h : WF1 μ a) : kd μ (a + 1) = (1, 6) := h.2.2
def WF2 (μ : mM) (a : Nat) : Prop := kd μ a = (0, 2) ∧ rv μ a 0 = some (a + 1) ∧ rv μ a 1 = some (a + 25) ∧ kd μ (a + 25) = (1, 6)
theorem w2_kd {μ : mM} {a : Nat} (h : WF2 μ a) : kd μ a = (0, 2) := h.1
theorem w2_f0 {μ : mM} {a : Nat} (h : WF2 μ a) : rv μ a 0 = some (a + 1) := h.2.1
theorem w2_f1 {μ : mM} {a : Nat} (h : WF2 μ a) : rv μ a 1 = some (a + 25) := h.2.2.1
theorem w2_k1 {μ : mM} {a : Nat} (h : WF2 μ a) : kd μ (a + 25) = (1, 6) := h.2.2.2
def WF3 (μ : mM) (a : Nat) : Prop := kd μ a = (0, 3) ∧ rv μ a 1 = some (a + 1) ∧ kd μ (a + 1) = (1, 3) ∧ rv μ a 2 = some (a + 2) ∧ kd μ (a + 2) = (3, 3) ∧ rv μ a 4 = some (a + 3) ∧ kd μ (a + 3) = (1, 12) ∧ rv μ a 5 = some (a + 4) ∧ kd μ (a + 4) = (1, 12) ∧ rv μ a 6 = some (a + 5) ∧ kd μ (a + 5) = (1, 12) ∧ rv μ a 9 = some (a + 6) ∧ kd μ (a + 6) = (1, 3) ∧ rv μ a 10 = some (a + 7) ∧ kd μ (a + 7) = (1, 12)
theorem w3_kd {μ : mM} {a : Nat} (h : WF3 μ a) : kd μ a = (0, 3) := h.1
theorem w3_f1 {μ : mM} {a : Nat} (h : WF3 μ a) : rv μ a 1 = some (a + 1) := h.2.1
theorem w3_k1 {μ : mM} {a : Nat} (h : WF3 μ a) : kd μ (a + 1) = (1, 3) := h.2.2.1
theorem w3_f2 {μ : mM} {a : Nat} (h : WF3 μ a) : rv μ a 2 = some (a + 2) := h.2.2.2.1
theorem w3_k2 {μ : mM} {a : Nat} (h : WF3 μ a) : kd μ (a + 2) = (3, 3) := h.2.2.2.2.1
theorem w3_f4 {μ : mM} {a : Nat} (h : WF3 μ a) : rv μ a 4 = some (a + 3) := h.2.2.2.2.2.1
theorem w3_k4 {μ : mM} {a : Nat} (h : WF3 μ a) : kd μ (a + 3) = (1, 12) := h.2.2.2.2.2.2.1
theorem w3_f5 {μ : mM} {a : Nat} (h : WF3 μ a) : rv μ a 5 = some (a + 4) := h.2.2.2.2.2.2.2.1
theorem w3_k5 {μ : mM} {a : Nat} (h : WF3 μ a) : kd μ (a + 4) = (1, 12) := h.2.2.2.2.2.2.2.2.1
theorem w3_f6 {μ : mM} {a : Nat} (h : WF3 μ a) : rv μ a 6 = some (a + 5) := h.2.2.2.2.2.2.2.2.2.1
theorem w3_k6 {μ : mM} {a : Nat} (h : WF3 μ a) : kd μ (a + 5) = (1, 12) := h.2.2.2.2.2.2.2.2.2.2.1
theorem w3_f9 {μ : mM} {a : Nat} (h : WF3 μ a) : rv μ a 9 = some (a + 6) := h.2.2.2.2.2.2.2.2.2.2.2.1
theorem w3_k9 {μ : mM} {a : Nat} (h : WF3 μ a) : kd μ (a + 6) = (1, 3) := h.2.2.2.2.2.2.2.2.2.2.2.2.1
theorem w3_f10 {μ : mM} {a : Nat} (h : WF3 μ a) : rv μ a 10 = some (a + 7) := h.2.2.2.2.2.2.2.2.2.2.2.2.2.1
theorem w3_k10 {μ : mM} {a : Nat} (h : WF3 μ a) : kd μ (a + 7) = (1, 12) := h.2.2.2.2.2.2.2.2.2.2.2.2.2.2
def WF4 (μ : mM) (a : Nat) : Prop := kd μ a = (0, 4)
theorem w4_kd {μ : mM} {a : Nat} (h : WF4 μ a) : kd μ a = (0, 4) := h
def WF5 (μ : mM) (a : Nat) : Prop := kd μ a = (0, 5) ∧ rv μ a 1 = some (a + 1) ∧ kd μ (a + 1) = (3, 6) ∧ rv μ a 2 = some (a + 2) ∧ kd μ (a + 2) = (4, 3) ∧ (∀ i, i < 3 → rv μ (a + 2) i = some (a + 3 + i)) ∧ (∀ i, i < 3 → kd μ (a + 3 + i) = (1, 6)) ∧ rv μ a 3 = some (a + 6) ∧ kd μ (a + 6) = (4, 6) ∧ (∀ i, i < 6 → rv μ (a + 6) i = some (a + 7 + i)) ∧ (∀ i, i < 6 → kd μ (a + 7 + i) = (1, 6)) ∧ rv μ a 4 = some (a + 13) ∧ kd μ (a + 13) = (4, 6) ∧ (∀ i, i < 6 → rv μ (a + 13) i = some (a + 14 + i)) ∧ (∀ i, i < 6 → kd μ (a + 14 + i) = (1, 6)) ∧ rv μ a 5 = some (a + 20) ∧ kd μ (a + 20) = (4, 3) ∧ (∀ i, i < 3 → rv μ (a + 20) i = some (a + 21 + i)) ∧ (∀ i, i < 3 → kd μ (a + 21 + i) = (1, 6))
theorem w5_kd {μ : mM} {a : Nat} (h : WF5 μ a) : kd μ a = (0, 5) := h.1
theorem w5_f1 {μ : mM} {a : Nat} (h : WF5 μ a) : rv μ a 1 = some (a + 1) := h.2.1
theorem w5_k1 {μ : mM} {a : Nat} (h : WF5 μ a) : kd μ (a + 1) = (3, 6) := h.2.2.1
theorem w5_f2 {μ : mM} {a : Nat} (h : WF5 μ a) : rv μ a 2 = some (a + 2) := h.2.2.2.1
theorem w5_k2 {μ : mM} {a : Nat} (h : WF5 μ a) : kd μ (a + 2) = (4, 3) := h.2.2.2.2.1
theorem w5_r2 {μ : mM} {a : Nat} (h : WF5 μ a) : ∀ i, i < 3 → rv μ (a + 2) i = some (a + 3 + i) := h.2.2.2.2.2.1
theorem w5_q2 {μ : mM} {a : Nat} (h : WF5 μ a) : ∀ i, i < 3 → kd μ (a + 3 + i) = (1, 6) := h.2.2.2.2.2.2.1
theorem w5_f3 {μ : mM} {a : Nat} (h : WF5 μ a) : rv μ a 3 = some (a + 6) := h.2.2.2.2.2.2.2.1
theorem w5_k3 {μ : mM} {a : Nat} (h : WF5 μ a) : kd μ (a + 6) = (4, 6) := h.2.2.2.2.2.2.2.2.1
theorem w5_r3 {μ : mM} {a : Nat} (h : WF5 μ a) : ∀ i, i < 6 → rv μ (a + 6) i = some (a + 7 + i) := h.2.2.2.2.2.2.2.2.2.1
theorem w5_q3 {μ : mM} {a : Nat} (h : WF5 μ a) : ∀ i, i < 6 → kd μ (a + 7 + i) = (1, 6) := h.2.2.2.2.2.2.2.2.2.2.1
theorem w5_f4 {μ : mM} {a : Nat} (h : WF5 μ a) : rv μ a 4 = some (a + 13) := h.2.2.2.2.2.2.2.2.2.2.2.1
theorem w5_k4 {μ : mM} {a : Nat} (h : WF5 μ a) : kd μ (a + 13) = (4, 6) := h.2.2.2.2.2.2.2.2.2.2.2.2.1
theorem w5_r4 {μ : mM} {a : Nat} (h : WF5 μ a) : ∀ i, i < 6 → rv μ (a + 13) i = some (a + 14 + i) := h.2.2.2.2.2.2.2.2.2.2.2.2.2.1
theorem w5_q4 {μ : mM} {a : Nat} (h : WF5 μ a) : ∀ i, i < 6 → kd μ (a + 14 + i) = (1, 6) := h.2.2.2.2.2.2.2.2.2.2.2.2.2.2.1
theorem w5_f5 {μ : mM} {a : Nat} (h : WF5 μ a) : rv μ a 5 = some (a + 20) := h.2.2.2.2.2.2.2.2.2.2.2.2.2.2.2.1
theorem w5_k5 {μ : mM} {a : Nat} (h : WF5 μ a) : kd μ (a + 20) = (4, 3) := h.2.2.2.2.2.2.2.2.2.2.2.2.2.2.2.2.1
theorem w5_r5 {μ : mM} {a : Nat} (h : WF5 μ a) : ∀ i, i < 3 → rv μ (a + 20) i = some (a + 21 + i) := h.2.2.2.2.2.2.2.2.2.2.2.2.2.2.2.2.2.1
theorem w5_q5 {μ : mM} {a : Nat} (h : WF5 μ a) : ∀ i, i < 3 → kd μ (a + 21 + i) = (1, 6) := h.2.2.2.2.2.2.2.2.2.2.2.2.2.2.2.2.2.2
def WF6 (μ : mM) (a : Nat) : Prop := kd μ a = (0, 6) ∧ rv μ a 0 = some (a + 1)
theorem w6_kd {μ : mM} {a : Nat} (h : WF6 μ a) : kd μ a = (0, 6) := h.1
theorem w6_f0 {μ : mM} {a : Nat} (h : WF6 μ a) : rv μ a 0 = some (a + 1) := h.2
def WF7 (μ : mM) (a : Nat) : Prop := kd μ a = (0, 7) ∧ rv μ a 3 = some (a + 1) ∧ kd μ (a + 1) = (1, 40)
theorem w7_kd {μ : mM} {a : Nat} (h : WF7 μ a) : kd μ a = (0, 7) := h.1
theorem w7_f3 {μ : mM} {a : Nat} (h : WF7 μ a) : rv μ a 3 = some (a + 1) := h.2.1
theorem w7_k3 {μ : mM} {a : Nat} (h : WF7 μ a) : kd μ (a + 1) = (1, 40) := h.2.2
def WF8 (μ : mM) (a : Nat) : Prop := kd μ a = (0, 8)
theorem w8_kd {μ : mM} {a : Nat} (h : WF8 μ a) : kd μ a = (0, 8) := h
def WF9 (μ : mM) (a : Nat) : Prop := kd μ a = (0, 9) ∧ rv μ a 0 = some (a + 1) ∧ kd μ (a + 1) = (2, 320)
theorem w9_kd {μ : mM} {a : Nat} (h : WF9 μ a) : kd μ a = (0, 9) := h.1
theorem w9_f0 {μ : mM} {a : Nat} (h : WF9 μ a) : rv μ a 0 = some (a + 1) := h.2.1
theorem w9_k0 {μ : mM} {a : Nat} (h : WF9 μ a) : kd μ (a + 1) = (2, 320) := h.2.2
def WF10 (μ : mM) (a : Nat) : Prop := kd μ a = (0, 10) ∧ rv μ a 0 = some (a + 1) ∧ rv μ a 1 = some (a + 25) ∧ kd μ (a + 25) = (6, 4) ∧ (∀ i, i < 4 → rv μ (a + 25) i = some (a + 26 + 8 * i))
theorem w10_kd {μ : mM} {a : Nat} (h : WF10 μ a) : kd μ a = (0, 10) := h.1
theorem w10_f0 {μ : mM} {a : Nat} (h : WF10 μ a) : rv μ a 0 = some (a + 1) := h.2.1
theorem w10_f1 {μ : mM} {a : Nat} (h : WF10 μ a) : rv μ a 1 = some (a + 25) := h.2.2.1
theorem w10_k1 {μ : mM} {a : Nat} (h : WF10 μ a) : kd μ (a + 25) = (6, 4) := h.2.2.2.1
theorem w10_r1 {μ : mM} {a : Nat} (h : WF10 μ a) : ∀ i, i < 4 → rv μ (a + 25) i = some (a + 26 + 8 * i) := h.2.2.2.2
def WF11 (μ : mM) (a : Nat) : Prop := kd μ a = (0, 11) ∧ rv μ a 0 = some (a + 1) ∧ rv μ a 1 = some (a + 3) ∧ rv μ a 4 = some (a + 120) ∧ kd μ (a + 120) = (5, 2) ∧ (∀ i, i < 2 → rv μ (a + 120) i = some (a + 204 + 24 * i)) ∧ rv μ a 5 = some (a + 121) ∧ kd μ (a + 121) = (3, 2) ∧ rv μ a 6 = some (a + 122) ∧ kd μ (a + 122) = (7, 4) ∧ (∀ i, i < 4 → rv μ (a + 122) i = some (a + 252 + 2 * i)) ∧ rv μ a 8 = some (a + 123) ∧ rv μ a 9 = some (a + 147) ∧ rv μ a 10 = some (a + 149) ∧ rv μ a 11 = some (a + 175) ∧ rv μ a 12 = some (a + 200) ∧ rv μ a 13 = some (a + 201)
theorem w11_kd {μ : mM} {a : Nat} (h : WF11 μ a) : kd μ a = (0, 11) := h.1
theorem w11_f0 {μ : mM} {a : Nat} (h : WF11 μ a) : rv μ a 0 = some (a + 1) := h.2.1
theorem w11_f1 {μ : mM} {a : Nat} (h : WF11 μ a) : rv μ a 1 = some (a + 3) := h.2.2.1
theorem w11_f4 {μ : mM} {a : Nat} (h : WF11 μ a) : rv μ a 4 = some (a + 120) := h.2.2.2.1
theorem w11_k4 {μ : mM} {a : Nat} (h : WF11 μ a) : kd μ (a + 120) = (5, 2) := h.2.2.2.2.1
theorem w11_r4 {μ : mM} {a : Nat} (h : WF11 μ a) : ∀ i, i < 2 → rv μ (a + 120) i = some (a + 204 + 24 * i) := h.2.2.2.2.2.1
theorem w11_f5 {μ : mM} {a : Nat} (h : WF11 μ a) : rv μ a 5 = some (a + 121) := h.2.2.2.2.2.2.1
theorem w11_k5 {μ : mM} {a : Nat} (h : WF11 μ a) : kd μ (a + 121) = (3, 2) := h.2.2.2.2.2.2.2.1
theorem w11_f6 {μ : mM} {a : Nat} (h : WF11 μ a) : rv μ a 6 = some (a + 122) := h.2.2.2.2.2.2.2.2.1
theorem w11_k6 {μ : mM} {a : Nat} (h : WF11 μ a) : kd μ (a + 122) = (7, 4) := h.2.2.2.2.2.2.2.2.2.1
theorem w11_r6 {μ : mM} {a : Nat} (h : WF11 μ a) : ∀ i, i < 4 → rv μ (a + 122) i = some (a + 252 + 2 * i) := h.2.2.2.2.2.2.2.2.2.2.1
theorem w11_f8 {μ : mM} {a : Nat} (h : WF11 μ a) : rv μ a 8 = some (a + 123) := h.2.2.2.2.2.2.2.2.2.2.2.1
theorem w11_f9 {μ : mM} {a : Nat} (h : WF11 μ a) : rv μ a 9 = some (a + 147) := h.2.2.2.2.2.2.2.2.2.2.2.2.1
theorem w11_f10 {μ : mM} {a : Nat} (h : WF11 μ a) : rv μ a 10 = some (a + 149) := h.2.2.2.2.2.2.2.2.2.2.2.2.2.1
theorem w11_f11 {μ : mM} {a : Nat} (h : WF11 μ a) : rv μ a 11 = some (a + 175) := h.2.2.2.2.2.2.2.2.2.2.2.2.2.2.1
theorem w11_f12 {μ : mM} {a : Nat} (h : WF11 μ a) : rv μ a 12 = some (a + 200) := h.2.2.2.2.2.2.2.2.2.2.2.2.2.2.2.1
theorem w11_f13 {μ : mM} {a : Nat} (h : WF11 μ a) : rv μ a 13 = some (a + 201) := h.2.2.2.2.2.2.2.2.2.2.2.2.2.2.2.2
def WF12 (μ : mM) (a : Nat) : Prop := kd μ a = (0, 12) ∧ rv μ a 0 = some (a + 1) ∧ kd μ (a + 1) = (1, 366) ∧ rv μ a 1 = some (a + 2) ∧ kd μ (a + 2) = (1, 192) ∧ rv μ a 3 = some (a + 3) ∧ kd μ (a + 3) = (1, 192) ∧ rv μ a 5 = some (a + 4) ∧ kd μ (a + 4) = (1, 320) ∧ rv μ a 15 = some (a + 5) ∧ kd μ (a + 5) = (1, 14) ∧ rv μ a 16 = some (a + 6) ∧ kd μ (a + 6) = (1, 46) ∧ rv μ a 17 = some (a + 7) ∧ kd μ (a + 7) = (1, 36) ∧ rv μ a 18 = some (a + 8) ∧ kd μ (a + 8) = (1, 3) ∧ rv μ a 19 = some (a + 9) ∧ kd μ (a + 9) = (1, 13) ∧ rv μ a 20 = some (a + 10) ∧ kd μ (a + 10) = (1, 6) ∧ rv μ a 21 = some (a + 11) ∧ kd μ (a + 11) = (1, 18) ∧ rv μ a 23 = some (a + 12) ∧ kd μ (a + 12) = (3, 2) ∧ rv μ a 24 = some (a + 13) ∧ kd μ (a + 13) = (1, 7) ∧ rv μ a 25 = some (a + 14) ∧ kd μ (a + 14) = (1, 4) ∧ rv μ a 26 = some (a + 15) ∧ kd μ (a + 15) = (1, 4) ∧ rv μ a 27 = some (a + 16) ∧ kd μ (a + 16) = (1, 160)
theorem w12_kd {μ : mM} {a : Nat} (h : WF12 μ a) : kd μ a = (0, 12) := h.1
theorem w12_f0 {μ : mM} {a : Nat} (h : WF12 μ a) : rv μ a 0 = some (a + 1) := h.2.1
theorem w12_k0 {μ : mM} {a : Nat} (h : WF12 μ a) : kd μ (a + 1) = (1, 366) := h.2.2.1
theorem w12_f1 {μ : mM} {a : Nat} (h : WF12 μ a) : rv μ a 1 = some (a + 2) := h.2.2.2.1
theorem w12_k1 {μ : mM} {a : Nat} (h : WF12 μ a) : kd μ (a + 2) = (1, 192) := h.2.2.2.2.1
theorem w12_f3 {μ : mM} {a : Nat} (h : WF12 μ a) : rv μ a 3 = some (a + 3) := h.2.2.2.2.2.1
theorem w12_k3 {μ : mM} {a : Nat} (h : WF12 μ a) : kd μ (a + 3) = (1, 192) := h.2.2.2.2.2.2.1
theorem w12_f5 {μ : mM} {a : Nat} (h : WF12 μ a) : rv μ a 5 = some (a + 4) := h.2.2.2.2.2.2.2.1
theorem w12_k5 {μ : mM} {a : Nat} (h : WF12 μ a) : kd μ (a + 4) = (1, 320) := h.2.2.2.2.2.2.2.2.1
theorem w12_f15 {μ : mM} {a : Nat} (h : WF12 μ a) : rv μ a 15 = some (a + 5) := h.2.2.2.2.2.2.2.2.2.1
theorem w12_k15 {μ : mM} {a : Nat} (h : WF12 μ a) : kd μ (a + 5) = (1, 14) := h.2.2.2.2.2.2.2.2.2.2.1
theorem w12_f16 {μ : mM} {a : Nat} (h : WF12 μ a) : rv μ a 16 = some (a + 6) := h.2.2.2.2.2.2.2.2.2.2.2.1
theorem w12_k16 {μ : mM} {a : Nat} (h : WF12 μ a) : kd μ (a + 6) = (1, 46) := h.2.2.2.2.2.2.2.2.2.2.2.2.1
theorem w12_f17 {μ : mM} {a : Nat} (h : WF12 μ a) : rv μ a 17 = some (a + 7) := h.2.2.2.2.2.2.2.2.2.2.2.2.2.1
theorem w12_k17 {μ : mM} {a : Nat} (h : WF12 μ a) : kd μ (a + 7) = (1, 36) := h.2.2.2.2.2.2.2.2.2.2.2.2.2.2.1
theorem w12_f18 {μ : mM} {a : Nat} (h : WF12 μ a) : rv μ a 18 = some (a + 8) := h.2.2.2.2.2.2.2.2.2.2.2.2.2.2.2.1
theorem w12_k18 {μ : mM} {a : Nat} (h : WF12 μ a) : kd μ (a + 8) = (1, 3) := h.2.2.2.2.2.2.2.2.2.2.2.2.2.2.2.2.1
theorem w12_f19 {μ : mM} {a : Nat} (h : WF12 μ a) : rv μ a 19 = some (a + 9) := h.2.2.2.2.2.2.2.2.2.2.2.2.2.2.2.2.2.1
theorem w12_k19 {μ : mM} {a : Nat} (h : WF12 μ a) : kd μ (a + 9) = (1, 13) := h.2.2.2.2.2.2.2.2.2.2.2.2.2.2.2.2.2.2.1
theorem w12_f20 {μ : mM} {a : Nat} (h : WF12 μ a) : rv μ a 20 = some (a + 10) := h.2.2.2.2.2.2.2.2.2.2.2.2.2.2.2.2.2.2.2.1
theorem w12_k20 {μ : mM} {a : Nat} (h : WF12 μ a) : kd μ (a + 10) = (1, 6) := h.2.2.2.2.2.2.2.2.2.2.2.2.2.2.2.2.2.2.2.2.1
theorem w12_f21 {μ : mM} {a : Nat} (h : WF12 μ a) : rv μ a 21 = some (a + 11) := h.2.2.2.2.2.2.2.2.2.2.2.2.2.2.2.2.2.2.2.2.2.1
theorem w12_k21 {μ : mM} {a : Nat} (h : WF12 μ a) : kd μ (a + 11) = (1, 18) := h.2.2.2.2.2.2.2.2.2.2.2.2.2.2.2.2.2.2.2.2.2.2.1
theorem w12_f23 {μ : mM} {a : Nat} (h : WF12 μ a) : rv μ a 23 = some (a + 12) := h.2.2.2.2.2.2.2.2.2.2.2.2.2.2.2.2.2.2.2.2.2.2.2.1
theorem w12_k23 {μ : mM} {a : Nat} (h : WF12 μ a) : kd μ (a + 12) = (3, 2) := h.2.2.2.2.2.2.2.2.2.2.2.2.2.2.2.2.2.2.2.2.2.2.2.2.1
theorem w12_f24 {μ : mM} {a : Nat} (h : WF12 μ a) : rv μ a 24 = some (a + 13) := h.2.2.2.2.2.2.2.2.2.2.2.2.2.2.2.2.2.2.2.2.2.2.2.2.2.1
theorem w12_k24 {μ : mM} {a : Nat} (h : WF12 μ a) : kd μ (a + 13) = (1, 7) := h.2.2.2.2.2.2.2.2.2.2.2.2.2.2.2.2.2.2.2.2.2.2.2.2.2.2.1
theorem w12_f25 {μ : mM} {a : Nat} (h : WF12 μ a) : rv μ a 25 = some (a + 14) := h.2.2.2.2.2.2.2.2.2.2.2.2.2.2.2.2.2.2.2.2.2.2.2.2.2.2.2.1
theorem w12_k25 {μ : mM} {a : Nat} (h : WF12 μ a) : kd μ (a + 14) = (1, 4) := h.2.2.2.2.2.2.2.2.2.2.2.2.2.2.2.2.2.2.2.2.2.2.2.2.2.2.2.2.1
theorem w12_f26 {μ : mM} {a : Nat} (h : WF12 μ a) : rv μ a 26 = some (a + 15) := h.2.2.2.2.2.2.2.2.2.2.2.2.2.2.2.2.2.2.2.2.2.2.2.2.2.2.2.2.2.1
theorem w12_k26 {μ : mM} {a : Nat} (h : WF12 μ a) : kd μ (a + 15) = (1, 4) := h.2.2.2.2.2.2.2.2.2.2.2.2.2.2.2.2.2.2.2.2.2.2.2.2.2.2.2.2.2.2.1
theorem w12_f27 {μ : mM} {a : Nat} (h : WF12 μ a) : rv μ a 27 = some (a + 16) := h.2.2.2.2.2.2.2.2.2.2.2.2.2.2.2.2.2.2.2.2.2.2.2.2.2.2.2.2.2.2.2.1
theorem w12_k27 {μ : mM} {a : Nat} (h : WF12 μ a) : kd μ (a + 16) = (1, 160) := h.2.2.2.2.2.2.2.2.2.2.2.2.2.2.2.2.2.2.2.2.2.2.2.2.2.2.2.2.2.2.2.2
/-- the ints of a memory -/
def sI (μ : mM) (f : Nat → Nat → Int32) : mM := (μ.1, f, μ.2.2)
theorem iv_sI (μ : mM) (f : Nat → Nat → Int32) (a k : Nat) : iv (sI μ f) a k = f a k := rfl
theorem kd_sI (μ : mM) (f : Nat → Nat → Int32) (a : Nat) : kd (sI μ f) a = kd μ a := rfl
theorem rv_sI (μ : mM) (f : Nat → Nat → Int32) (a k : Nat) : rv (sI μ f) a k = rv μ a k := rfl
def u2 (f : Nat → Nat → Int32) (a k : Nat) (v : Int32) : Nat → Nat → Int32 := fun x j => if x = a ∧ j = k then v else f x j
theorem wi_sI (μ : mM) (f : Nat → Nat → Int32) (a k : Nat) (v : Int32) : wi (sI μ f) a k v = sI μ (u2 f a k v) := rfl
theorem inc1 (i : Nat) : nI i + Int32.ofInt 1 = nI (i + 1) := nI_1 i
theorem incI (x : Int32) : x + Int32.ofInt 1 = x + 1 := rfl
theorem decI (x : Int32) : x + Int32.ofInt (-1) = x + (-1) := rfl
theorem nar_b {v : Int32} (h : v = 0 ∨ v = 1) : narrow .boolean (.int v) = .int v := by rcases h with rfl | rfl <;> rfl
theorem fit_b {v : Int32} (h : v = 0 ∨ v = 1) : fits .boolean (.int v) = true := by rcases h with rfl | rfl <;> rfl
theorem vpn_b {v : Int32} (h : v = 0 ∨ v = 1) : vp_nar .boolean v = v := by rcases h with rfl | rfl <;> rfl
theorem ic_m1 : Int32.ofInt (-1) = (-1) := by decide
theorem ic_0 : Int32.ofInt 0 = 0 := by decide
theorem ic_1 : Int32.ofInt 1 = 1 := by decide
theorem ic_2 : Int32.ofInt 2 = 2 := by decide
theorem ic_3 : Int32.ofInt 3 = 3 := by decide
theorem ic_4 : Int32.ofInt 4 = 4 := by decide
theorem ic_5 : Int32.ofInt 5 = 5 := by decide
theorem bp_m20 : (Int8.ofInt (-20)).toInt32 = (-20) := by decide
theorem bp_m14 : (Int8.ofInt (-14)).toInt32 = (-14) := by decide
theorem bp_m12 : (Int8.ofInt (-12)).toInt32 = (-12) := by decide
theorem bp_m11 : (Int8.ofInt (-11)).toInt32 = (-11) := by decide
theorem bp_m10 : (Int8.ofInt (-10)).toInt32 = (-10) := by decide
theorem bp_m4 : (Int8.ofInt (-4)).toInt32 = (-4) := by decide
theorem bp_m3 : (Int8.ofInt (-3)).toInt32 = (-3) := by decide
theorem bp_m2 : (Int8.ofInt (-2)).toInt32 = (-2) := by decide
theorem bp_6 : (Int8.ofInt 6).toInt32 = 6 := by decide
theorem bp_7 : (Int8.ofInt 7).toInt32 = 7 := by decide
theorem bp_8 : (Int8.ofInt 8).toInt32 = 8 := by decide
theorem bp_9 : (Int8.ofInt 9).toInt32 = 9 := by decide
theorem bp_10 : (Int8.ofInt 10).toInt32 = 10 := by decide
theorem bp_11 : (Int8.ofInt 11).toInt32 = 11 := by decide
theorem bp_12 : (Int8.ofInt 12).toInt32 = 12 := by decide
theorem bp_13 : (Int8.ofInt 13).toInt32 = 13 := by decide
theorem bp_14 : (Int8.ofInt 14).toInt32 = 14 := by decide
theorem bp_15 : (Int8.ofInt 15).toInt32 = 15 := by decide
theorem bp_16 : (Int8.ofInt 16).toInt32 = 16 := by decide
theorem bp_17 : (Int8.ofInt 17).toInt32 = 17 := by decide
theorem bp_18 : (Int8.ofInt 18).toInt32 = 18 := by decide
theorem bp_19 : (Int8.ofInt 19).toInt32 = 19 := by decide
theorem bp_20 : (Int8.ofInt 20).toInt32 = 20 := by decide
theorem bp_21 : (Int8.ofInt 21).toInt32 = 21 := by decide
theorem bp_22 : (Int8.ofInt 22).toInt32 = 22 := by decide
theorem bp_23 : (Int8.ofInt 23).toInt32 = 23 := by decide
theorem bp_24 : (Int8.ofInt 24).toInt32 = 24 := by decide
theorem bp_25 : (Int8.ofInt 25).toInt32 = 25 := by decide
theorem bp_26 : (Int8.ofInt 26).toInt32 = 26 := by decide
theorem bp_27 : (Int8.ofInt 27).toInt32 = 27 := by decide
theorem bp_28 : (Int8.ofInt 28).toInt32 = 28 := by decide
theorem bp_29 : (Int8.ofInt 29).toInt32 = 29 := by decide
theorem bp_30 : (Int8.ofInt 30).toInt32 = 30 := by decide
theorem bp_31 : (Int8.ofInt 31).toInt32 = 31 := by decide
theorem bp_32 : (Int8.ofInt 32).toInt32 = 32 := by decide
theorem bp_33 : (Int8.ofInt 33).toInt32 = 33 := by decide
theorem bp_34 : (Int8.ofInt 34).toInt32 = 34 := by decide
theorem bp_35 : (Int8.ofInt 35).toInt32 = 35 := by decide
theorem bp_36 : (Int8.ofInt 36).toInt32 = 36 := by decide
theorem bp_37 : (Int8.ofInt 37).toInt32 = 37 := by decide
theorem bp_38 : (Int8.ofInt 38).toInt32 = 38 := by decide
theorem bp_39 : (Int8.ofInt 39).toInt32 = 39 := by decide
theorem bp_40 : (Int8.ofInt 40).toInt32 = 40 := by decide
theorem bp_41 : (Int8.ofInt 41).toInt32 = 41 := by decide
theorem bp_42 : (Int8.ofInt 42).toInt32 = 42 := by decide
theorem bp_43 : (Int8.ofInt 43).toInt32 = 43 := by decide
theorem bp_44 : (Int8.ofInt 44).toInt32 = 44 := by decide
theorem bp_45 : (Int8.ofInt 45).toInt32 = 45 := by decide
theorem bp_46 : (Int8.ofInt 46).toInt32 = 46 := by decide
theorem bp_48 : (Int8.ofInt 48).toInt32 = 48 := by decide
theorem bp_54 : (Int8.ofInt 54).toInt32 = 54 := by decide
theorem bp_57 : (Int8.ofInt 57).toInt32 = 57 := by decide
theorem bp_58 : (Int8.ofInt 58).toInt32 = 58 := by decide
theorem bp_59 : (Int8.ofInt 59).toInt32 = 59 := by decide
theorem bp_60 : (Int8.ofInt 60).toInt32 = 60 := by decide
theorem bp_61 : (Int8.ofInt 61).toInt32 = 61 := by decide
theorem bp_97 : (Int8.ofInt 97).toInt32 = 97 := by decide
theorem bp_98 : (Int8.ofInt 98).toInt32 = 98 := by decide
theorem bp_99 : (Int8.ofInt 99).toInt32 = 99 := by decide
theorem bp_100 : (Int8.ofInt 100).toInt32 = 100 := by decide
theorem bp_101 : (Int8.ofInt 101).toInt32 = 101 := by decide
theorem bp_104 : (Int8.ofInt 104).toInt32 = 104 := by decide
theorem bp_107 : (Int8.ofInt 107).toInt32 = 107 := by decide
theorem bp_108 : (Int8.ofInt 108).toInt32 = 108 := by decide
theorem bp_109 : (Int8.ofInt 109).toInt32 = 109 := by decide
theorem bp_110 : (Int8.ofInt 110).toInt32 = 110 := by decide
theorem bp_111 : (Int8.ofInt 111).toInt32 = 111 := by decide
theorem bp_114 : (Int8.ofInt 114).toInt32 = 114 := by decide
theorem bp_115 : (Int8.ofInt 115).toInt32 = 115 := by decide
theorem bp_116 : (Int8.ofInt 116).toInt32 = 116 := by decide
theorem bp_120 : (Int8.ofInt 120).toInt32 = 120 := by decide
theorem bp_121 : (Int8.ofInt 121).toInt32 = 121 := by decide
theorem bp_122 : (Int8.ofInt 122).toInt32 = 122 := by decide
theorem bp_127 : (Int8.ofInt 127).toInt32 = 127 := by decide
theorem sp_160 : (Int16.ofInt 160).toInt32 = 160 := by decide
theorem sp_183 : (Int16.ofInt 183).toInt32 = 183 := by decide
theorem sp_192 : (Int16.ofInt 192).toInt32 = 192 := by decide
theorem sp_243 : (Int16.ofInt 243).toInt32 = 243 := by decide
theorem sp_244 : (Int16.ofInt 244).toInt32 = 244 := by decide
theorem sp_255 : (Int16.ofInt 255).toInt32 = 255 := by decide
theorem sp_305 : (Int16.ofInt 305).toInt32 = 305 := by decide
theorem sp_311 : (Int16.ofInt 311).toInt32 = 311 := by decide
theorem sp_320 : (Int16.ofInt 320).toInt32 = 320 := by decide
theorem sp_329 : (Int16.ofInt 329).toInt32 = 329 := by decide
theorem sp_365 : (Int16.ofInt 365).toInt32 = 365 := by decide
theorem sp_366 : (Int16.ofInt 366).toInt32 = 366 := by decide
theorem sp_12345 : (Int16.ofInt 12345).toInt32 = 12345 := by decide
theorem sp_32767 : (Int16.ofInt 32767).toInt32 = 32767 := by decide
