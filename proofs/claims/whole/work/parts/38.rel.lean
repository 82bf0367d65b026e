/-! the class and the model, side by side -/
abbrev fZ : Type := fU × (fA × fA × fA) × fG × fW × fM × fR × (fA × fA × fA) × (fA × fA) × (fA × Int32)
def mdz (z : fZ) : mj_H := mdZ z.1 z.2.1 z.2.2.1 z.2.2.2.1 z.2.2.2.2.1 z.2.2.2.2.2.1 z.2.2.2.2.2.2.1 z.2.2.2.2.2.2.2.1 z.2.2.2.2.2.2.2.2
/-- sheets: lanes and sizes alike; items alike where there is a sheet -/
def ShR (S s : fA × fA × fA) : Prop := ∀ k, k < 8 → S.2.1 k = s.1 k ∧ (s.1 k = -(nI 1) ∨ s.1 k = nI 0 ∨ s.1 k = nI 1 ∨ s.1 k = nI 2) ∧ ∃ n, n ≤ 60 ∧ S.2.2 k = nI n ∧ s.2.1 k = nI n ∧ (s.1 k ≠ -(nI 1) → ∀ i, i < n → S.1 (k * 60 + i) = s.2.2 (k * 60 + i))
/-- the tape: the class's bytes have signs -/
def TpR (T : fT) (t : fR) : Prop := ∃ n, n ≤ 300 ∧ T.2.2.2.2.1 = nI n ∧ t.2.1 = nI n ∧ ∀ i, i < n → ∃ q, q < 256 ∧ t.1.1 i = nI q ∧ T.2.1 i = (nI q).toInt8.toInt32
/-- the class's row of what lives -/
def lvs (V : fV) : fA := if V.2.2.1 = 31 then V.1 else V.2.1
def Rel (P : fP) (z : fZ) : Prop := ∃ b, b < 22 ∧ Bd b P.2.2.2.1 ∧ Bd b z.2.2.1 ∧
  P.2.1.1 = z.1.2 ∧ P.2.1.2 = z.2.2.2.2.2.1.2.2.1 ∧ ShR P.2.2.1 z.2.1 ∧
  (P.2.2.2.2.1.2.2.2.2.2 = (18, 19) ∨ P.2.2.2.2.1.2.2.2.2.2 = (19, 18)) ∧
  (P.2.2.2.2.2.1 = z.2.2.2.2.1 ∧ ∃ c f, c < bn b ∧ f < bp b ∧ P.2.2.2.2.2.1.1 = nI c ∧ P.2.2.2.2.2.1.2.1 = nI f) ∧
  TpR P.2.2.2.2.2.2.1 z.2.2.2.2.2.1 ∧
  (∀ c, c < bn b → P.2.2.2.2.2.2.2.1.1 c = z.2.2.2.2.2.2.1.1 c ∧ (z.2.2.2.2.2.2.1.1 c = NO ∨ ∃ q, q < 4 ∧ z.2.2.2.2.2.2.1.1 c = nI q)) ∧
  ((P.2.2.2.2.2.2.2.2.1.2.2 = (31, 32) ∨ P.2.2.2.2.2.2.2.2.1.2.2 = (32, 31)) ∧ ∀ c, c < bn b → lvs P.2.2.2.2.2.2.2.2.1 c = z.2.2.2.2.2.2.2.1.1 c ∧ (z.2.2.2.2.2.2.2.1.1 c = nI 0 ∨ z.2.2.2.2.2.2.2.1.1 c = nI 1)) ∧
  (∃ n, n ≤ 16 ∧ P.2.2.2.2.2.2.2.2.2.2 = nI n ∧ z.2.2.2.2.2.2.2.2.2 = nI n ∧ ∀ i, i < n → P.2.2.2.2.2.2.2.2.2.1 i = z.2.2.2.2.2.2.2.2.1 i)
/-- a call of both: one answer, and the two stay side by side -/
def Sim (d y1 y2 : Nat) (av : List Value) : Prop := ∀ P z, Rel P z → ∃ r P' z', mj_C d y1 (.ref 1 :: av) (fbP P (mdz z)) (some (.int r)) (fbP P' (mdz z)) ∧ mj_C d y2 (.ref 35 :: av) (fbP P' (mdz z)) (some (.int r)) (fbP P' (mdz z')) ∧ Rel P' z'
section SI
variable {d : Nat}
theorem m_status {P : fP} {U : fU} {s : fA × fA × fA} {g : fG} {w : fW} {m : fM} {t : fR} {c : fA × fA × fA} {v : fA × fA} {a : fA × Int32} : mj_C (d + 1) nX9_status [.ref 35] (fbP P (mdZ U s g w m t c v a)) (some (.int U.2)) (fbP P (mdZ (nI 0, U.2) s g w m t c v a)) := by
  refine mj_C.of rfl rfl rfl ?_
  refine mj_b0 40 rfl ?_
  exact mj_end rfl rfl trivial ⟨rfl, rfl⟩
theorem m_fault {P : fP} {U : fU} {s : fA × fA × fA} {g : fG} {w : fW} {m : fM} {t : fR} {c : fA × fA × fA} {v : fA × fA} {a : fA × Int32} : mj_C (d + 1) nX9_fault [.ref 35] (fbP P (mdZ U s g w m t c v a)) (some (.int t.2.2.1)) (fbP P (mdZ (nI 0, U.2) s g w m t c v a)) := by
  refine mj_C.of rfl rfl rfl ?_
  refine mj_b0 40 rfl ?_
  exact mj_end rfl rfl trivial ⟨rfl, rfl⟩
theorem Rel.thrown {P : fP} {U : fU} {r : (fA × fA × fA) × fG × fW × fM × fR × (fA × fA × fA) × (fA × fA) × (fA × Int32)} {x : Int32} (h : Rel P (U, r)) : Rel P ((x, U.2), r) := h
/-- promise 36 -/
theorem s_status : Sim (d + 1) nX8_status nX9_status [] := by
  intro P z h
  obtain ⟨U, s, g, w, m, t, c, v, a⟩ := z
  obtain ⟨b, hb, h1, h2, h3, h4⟩ := id h
  have e : P.2.1.1 = U.2 := h3
  refine ⟨U.2, P, ((nI 0, U.2), s, g, w, m, t, c, v, a), ?_, m_status, h.thrown⟩
  have k := c_status (sc := P.1) (F := P.2.1) (S := P.2.2.1) (G := P.2.2.2.1) (Y := P.2.2.2.2.1) (M := P.2.2.2.2.2.1) (T := P.2.2.2.2.2.2.1) (C := P.2.2.2.2.2.2.2.1) (V := P.2.2.2.2.2.2.2.2.1) (A := P.2.2.2.2.2.2.2.2.2) (Z := mdz (U, s, g, w, m, t, c, v, a)) (d := d)
  rw [e] at k
  exact k
/-- promise 19 -/
theorem s_fault : Sim (d + 1) nX8_fault nX9_fault [] := by
  intro P z h
  obtain ⟨U, s, g, w, m, t, c, v, a⟩ := z
  obtain ⟨b, hb, h1, h2, h3, h4, h5⟩ := id h
  have e : P.2.1.2 = t.2.2.1 := h4
  refine ⟨t.2.2.1, P, ((nI 0, U.2), s, g, w, m, t, c, v, a), ?_, m_fault, h.thrown⟩
  have k := c_fault (sc := P.1) (F := P.2.1) (S := P.2.2.1) (G := P.2.2.2.1) (Y := P.2.2.2.2.1) (M := P.2.2.2.2.2.1) (T := P.2.2.2.2.2.2.1) (C := P.2.2.2.2.2.2.2.1) (V := P.2.2.2.2.2.2.2.2.1) (A := P.2.2.2.2.2.2.2.2.2) (Z := mdz (U, s, g, w, m, t, c, v, a)) (d := d)
  rw [e] at k
  exact k
end SI
