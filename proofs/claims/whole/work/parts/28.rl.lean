/-! the relation between the class's cells and the reference's -/
def rq_cR (a b k : Nat) : Prop := (a = 16 ∧ b ≤ 2) ∨ a = 4 ∨ a = 22
def rq_cT (a b k : Nat) : Prop := (a = 6 ∧ (k = 1 ∨ k = 3)) ∨ (a = 9 ∧ (k = 12 ∨ k = 19)) ∨ (a = 10 ∧ b = 0) ∨ (a = 16 ∧ b = 6)
def rq_cA (a b k : Nat) : Prop := a = 1 ∨ (a = 9 ∧ k = 30) ∨ (a = 10 ∧ b = 3) ∨ (a = 16 ∧ b = 8)
def rq_cF (a b k : Nat) : Prop := a = 8 ∨ (a = 9 ∧ k = 1)
def rq_cs (a : Nat) : Prop := a = 5 ∨ a = 20 ∨ a = 21 ∨ a = 11
def rq_cN (a b k : Nat) : Prop := (rq_cs a ∧ b = 0) ∨ (a = 16 ∧ b = 3) ∨ (a = 17 ∧ b = 0)
def rq_cI (a b k : Nat) : Prop := (rq_cs a ∧ (b = 2 ∨ b = 3)) ∨ a = 18 ∨ (a = 16 ∧ b = 7) ∨ (a = 17 ∧ b = 4)
def rq_cG (a b k : Nat) : Prop := (rq_cs a ∧ 4 ≤ b ∧ b < 28) ∨ a = 0 ∨ (a = 9 ∧ k = 10) ∨ (a = 16 ∧ b = 5) ∨ (a = 17 ∧ b = 1)
/-- two states agree on some cells -/
def rq_fI (P : Nat → Nat → Nat → Prop) (I I1 : sx_I) : Prop := ∀ a b k, P a b k → I1 a b k = I a b k
def rq_fJ (P : Nat → Nat → Nat → Prop) (J J1 : sx_J) : Prop := ∀ a b k, P a b k → J1 a b k = J a b k
def rq_rows (I : sx_I) : Prop := ∀ r, r < 8 → I 16 0 r = I 4 r 0 ∧ (I 4 r 0 = Int32.ofInt (-1) ∨ ((I 4 r 0 = 0 ∨ I 4 r 0 = 1 ∨ I 4 r 0 = 2) ∧ ∃ n, n ≤ 40 ∧ I 4 r 1 = nI n ∧ I 16 1 r = nI n)) ∧ ∀ k, k < 40 → I 16 2 (40 * r + k) = I 22 r k
def rq_tape (I : sx_I) : Prop := (∃ n, n ≤ 80 ∧ I 6 0 1 = nI n ∧ I 9 0 12 = nI n ∧ ∀ k, k < n → I 16 6 k = I 10 0 k ∧ ∃ c, c < 256 ∧ I 10 0 k = nI c) ∧ I 6 0 3 = I 9 0 19
def rq_asks (I : sx_I) : Prop := ∃ n, n ≤ 16 ∧ I 1 0 1 = nI n ∧ I 9 0 30 = nI n ∧ ∀ k, k < n → I 10 3 k = I 16 8 k
def rq_fin (I : sx_I) : Prop := I 8 0 10 = I 9 0 1
def rq_two (I : sx_I) (J : sx_J) (r a o b u : Nat) (s L : Nat → Nat) : Prop := rq_C I J r s L ∧ rq_Q I J a o b u s L ∧ rq_W s ∧ rq_V s L
def rq_now (I : sx_I) (J : sx_J) : Prop := ∃ s L, rq_two I J 0 3 0 0 0 s L
def rq_img (I : sx_I) (J : sx_J) (k : Nat) : Prop := (I 18 0 k = 0 ∧ I 5 (k + 2) 0 = 0) ∨ (I 18 0 k = 1 ∧ ∃ s L, 0 < s 0 ∧ rq_two I J (k + 2) 7 (32 * k) 4 (6 * k) s L)
def rq_at (q a i : Nat) : Nat := 4 + (q + 24 - a + i) % 24
def rq_ring (I : sx_I) (J : sx_J) : Prop := ∃ a q, a ≤ 24 ∧ q < 24 ∧ I 0 0 1 = nI q ∧ I 0 0 2 = nI a ∧ I 9 0 10 = nI a ∧ ∀ i, i < a → ∃ s L, rq_two I J (rq_at q a i) 5 (32 * i) 1 (6 * i) s L
def rq_Rel (I : sx_I) (J : sx_J) : Prop := rq_rows I ∧ rq_tape I ∧ rq_asks I ∧ rq_fin I ∧ rq_now I J ∧ (∀ k, k < 2 → rq_img I J k) ∧ rq_ring I J
section RQL
variable {I I1 I2 : sx_I} {J J1 J2 : sx_J} {P P2 : Nat → Nat → Nat → Prop} {s L : Nat → Nat} {r a o b u : Nat}
theorem rq_fI.tr (h1 : rq_fI P I I1) (h2 : rq_fI P I1 I2) : rq_fI P I I2 := fun a b k h => (h2 a b k h).trans (h1 a b k h)
theorem rq_fJ.tr (h1 : rq_fJ P J J1) (h2 : rq_fJ P J1 J2) : rq_fJ P J J2 := fun a b k h => (h2 a b k h).trans (h1 a b k h)
theorem rq_rows.fr (h : rq_rows I) (e : rq_fI rq_cR I I1) : rq_rows I1 := by
  intro r hr
  obtain ⟨h1, h2, h3⟩ := h r hr
  rw [e 16 0 r (Or.inl ⟨rfl, by omega⟩), e 4 r 0 (Or.inr (Or.inl rfl)), e 4 r 1 (Or.inr (Or.inl rfl)), e 16 1 r (Or.inl ⟨rfl, by omega⟩)]
  refine ⟨h1, h2, fun k hk => ?_⟩
  rw [e 16 2 _ (Or.inl ⟨rfl, by omega⟩), e 22 r k (Or.inr (Or.inr rfl))]
  exact h3 k hk
theorem rq_tape.fr (h : rq_tape I) (e : rq_fI rq_cT I I1) : rq_tape I1 := by
  obtain ⟨⟨n, hn, h1, h2, h3⟩, h4⟩ := h
  rw [rq_tape, e 6 0 1 (by unfold rq_cT; omega), e 9 0 12 (by unfold rq_cT; omega), e 6 0 3 (by unfold rq_cT; omega), e 9 0 19 (by unfold rq_cT; omega)]
  refine ⟨⟨n, hn, h1, h2, fun k hk => ?_⟩, h4⟩
  rw [e 16 6 k (by unfold rq_cT; omega), e 10 0 k (by unfold rq_cT; omega)]
  exact h3 k hk
theorem rq_asks.fr (h : rq_asks I) (e : rq_fI rq_cA I I1) : rq_asks I1 := by
  obtain ⟨n, hn, h1, h2, h3⟩ := h
  rw [rq_asks, e 1 0 1 (by unfold rq_cA; omega), e 9 0 30 (by unfold rq_cA; omega)]
  refine ⟨n, hn, h1, h2, fun k hk => ?_⟩
  rw [e 10 3 k (by unfold rq_cA; omega), e 16 8 k (by unfold rq_cA; omega)]
  exact h3 k hk
theorem rq_fin.fr (h : rq_fin I) (e : rq_fI rq_cF I I1) : rq_fin I1 := by
  rw [rq_fin, e 8 0 10 (by unfold rq_cF; omega), e 9 0 1 (by unfold rq_cF; omega)]; exact h
theorem rq_R.fr {h l A D : Nat} {st : Int32} (hR : rq_R I J r s h l A D st L) (e : ∀ a k, rq_cs a → I1 a r k = I a r k) (e2 : ∀ a k, rq_cs a → J1 a r k = J a r k) : rq_R I1 J1 r s h l A D st L := by
  have c5 : rq_cs 5 := Or.inl rfl
  have c20 : rq_cs 20 := Or.inr (Or.inl rfl)
  have c21 : rq_cs 21 := Or.inr (Or.inr (Or.inl rfl))
  have c11 : rq_cs 11 := Or.inr (Or.inr (Or.inr rfl))
  rw [rq_R, e 5 0 c5, e 5 1 c5, e 5 2 c5, e 5 3 c5, e 5 4 c5, e 5 5 c5, e 5 6 c5, e 5 7 c5, e 5 8 c5, e 5 9 c5]
  refine ⟨hR.1, hR.2.1, hR.2.2.1, hR.2.2.2.1, hR.2.2.2.2.1, hR.2.2.2.2.2.1, hR.2.2.2.2.2.2.1, hR.2.2.2.2.2.2.2.1, hR.2.2.2.2.2.2.2.2.1, hR.2.2.2.2.2.2.2.2.2.1, fun p hp => ?_⟩
  rw [e 20 p c20, e 21 p c21, e2 11 p c11]
  exact hR.2.2.2.2.2.2.2.2.2.2 p hp
theorem rq_C.fr (h : rq_C I J r s L) (e : ∀ a k, rq_cs a → I1 a r k = I a r k) (e2 : ∀ a k, rq_cs a → J1 a r k = J a r k) : rq_C I1 J1 r s L := rq_R.fr h e e2
theorem rq_Q.fr (h : rq_Q I J a o b u s L) (e : ∀ k, k < 32 → I1 16 a (o + k) = I 16 a (o + k)) (e2 : ∀ k, k < 6 → J1 17 b (u + k) = J 17 b (u + k)) : rq_Q I1 J1 a o b u s L := ⟨fun k hk => (e k hk).trans (h.1 k hk), fun k hk => (e2 k hk).trans (h.2 k hk)⟩
theorem rq_now.fr (h : rq_now I J) (e : rq_fI rq_cN I I1) (e2 : rq_fJ rq_cN J J1) : rq_now I1 J1 := by
  obtain ⟨s, L, h1, h2, h3, h4⟩ := h
  exact ⟨s, L, h1.fr (fun a k c => e a 0 k (Or.inl ⟨c, rfl⟩)) (fun a k c => e2 a 0 k (Or.inl ⟨c, rfl⟩)), h2.fr (fun k _ => e 16 3 _ (Or.inr (Or.inl ⟨rfl, rfl⟩))) (fun k _ => e2 17 0 _ (Or.inr (Or.inr ⟨rfl, rfl⟩))), h3, h4⟩
theorem rq_img.fr {k : Nat} (hk : k < 2) (h : rq_img I J k) (e : rq_fI rq_cI I I1) (e2 : rq_fJ rq_cI J J1) : rq_img I1 J1 k := by
  have hc : ∀ a z, rq_cs a → rq_cI a (k + 2) z := fun a z c => Or.inl ⟨c, by omega⟩
  rw [rq_img, e 18 0 k (Or.inr (Or.inl rfl)), e 5 (k + 2) 0 (hc 5 0 (Or.inl rfl))]
  rcases h with h | ⟨h0, s, L, hs, h1, h2, h3, h4⟩
  · exact Or.inl h
  · exact Or.inr ⟨h0, s, L, hs, h1.fr (fun a z c => e a _ z (hc a z c)) (fun a z c => e2 a _ z (hc a z c)), h2.fr (fun z _ => e 16 7 _ (Or.inr (Or.inr (Or.inl ⟨rfl, rfl⟩)))) (fun z _ => e2 17 4 _ (Or.inr (Or.inr (Or.inr ⟨rfl, rfl⟩)))), h3, h4⟩
theorem rq_at_b (q a i : Nat) : 4 ≤ rq_at q a i ∧ rq_at q a i < 28 := by
  have := Nat.mod_lt (q + 24 - a + i) (show 0 < 24 by omega)
  unfold rq_at; omega
theorem rq_ring.fr (h : rq_ring I J) (e : rq_fI rq_cG I I1) (e2 : rq_fJ rq_cG J J1) : rq_ring I1 J1 := by
  obtain ⟨a, q, ha, hq, h1, h2, h3, h4⟩ := h
  refine ⟨a, q, ha, hq, by rw [e 0 0 1 (Or.inr (Or.inl rfl))]; exact h1, by rw [e 0 0 2 (Or.inr (Or.inl rfl))]; exact h2, by rw [e 9 0 10 (Or.inr (Or.inr (Or.inl ⟨rfl, rfl⟩)))]; exact h3, fun i hi => ?_⟩
  obtain ⟨s, L, k1, k2, k3, k4⟩ := h4 i hi
  have hc : ∀ x z, rq_cs x → rq_cG x (rq_at q a i) z := fun x z c => Or.inl ⟨c, rq_at_b q a i⟩
  exact ⟨s, L, k1.fr (fun x z c => e x _ z (hc x z c)) (fun x z c => e2 x _ z (hc x z c)), k2.fr (fun z _ => e 16 5 _ (Or.inr (Or.inr (Or.inr (Or.inl ⟨rfl, rfl⟩))))) (fun z _ => e2 17 1 _ (Or.inr (Or.inr (Or.inr (Or.inr ⟨rfl, rfl⟩))))), k3, k4⟩
/-- cells that nobody looks at from call to call -/
def rq_scr (a b k : Nat) : Prop := a = 2 ∨ a = 3 ∨ a = 7 ∨ (rq_cs a ∧ (b = 1 ∨ 28 ≤ b)) ∨ (a = 6 ∧ (k = 2 ∨ k = 4)) ∨ (a = 9 ∧ k ≠ 1 ∧ k ≠ 10 ∧ k ≠ 12 ∧ k ≠ 19 ∧ k ≠ 30) ∨ (a = 10 ∧ (b = 1 ∨ b = 2)) ∨ (a = 16 ∧ b = 4) ∨ (a = 17 ∧ (b = 2 ∨ b = 3))
def rq_same (I : sx_I) (J : sx_J) (I1 : sx_I) (J1 : sx_J) : Prop := rq_fI (fun a b k => ¬ rq_scr a b k) I I1 ∧ rq_fJ (fun a b k => ¬ rq_scr a b k) J J1
theorem rq_same.rf : rq_same I J I J := ⟨fun _ _ _ _ => rfl, fun _ _ _ _ => rfl⟩
theorem rq_same.tr (h1 : rq_same I J I1 J1) (h2 : rq_same I1 J1 I2 J2) : rq_same I J I2 J2 := ⟨h1.1.tr h2.1, h1.2.tr h2.2⟩
theorem rq_fI.mono (h : rq_fI P I I1) (m : ∀ a b k, P2 a b k → P a b k) : rq_fI P2 I I1 := fun a b k c => h a b k (m a b k c)
theorem rq_fJ.mono (h : rq_fJ P J J1) (m : ∀ a b k, P2 a b k → P a b k) : rq_fJ P2 J J1 := fun a b k c => h a b k (m a b k c)
theorem rq_nR {a b k : Nat} (h : rq_cR a b k) : ¬ rq_scr a b k := by unfold rq_cR at h; unfold rq_scr rq_cs; omega
theorem rq_nT {a b k : Nat} (h : rq_cT a b k) : ¬ rq_scr a b k := by unfold rq_cT at h; unfold rq_scr rq_cs; omega
theorem rq_nA {a b k : Nat} (h : rq_cA a b k) : ¬ rq_scr a b k := by unfold rq_cA at h; unfold rq_scr rq_cs; omega
theorem rq_nF {a b k : Nat} (h : rq_cF a b k) : ¬ rq_scr a b k := by unfold rq_cF at h; unfold rq_scr rq_cs; omega
theorem rq_nN {a b k : Nat} (h : rq_cN a b k) : ¬ rq_scr a b k := by unfold rq_cN rq_cs at h; unfold rq_scr rq_cs; omega
theorem rq_nI' {a b k : Nat} (h : rq_cI a b k) : ¬ rq_scr a b k := by unfold rq_cI rq_cs at h; unfold rq_scr rq_cs; omega
theorem rq_nG {a b k : Nat} (h : rq_cG a b k) : ¬ rq_scr a b k := by unfold rq_cG rq_cs at h; unfold rq_scr rq_cs; omega
theorem rq_Rel.same (h : rq_Rel I J) (e : rq_same I J I1 J1) : rq_Rel I1 J1 := by
  obtain ⟨h1, h2, h3, h4, h5, h6, h7⟩ := h
  exact ⟨h1.fr (e.1.mono fun _ _ _ => rq_nR), h2.fr (e.1.mono fun _ _ _ => rq_nT), h3.fr (e.1.mono fun _ _ _ => rq_nA), h4.fr (e.1.mono fun _ _ _ => rq_nF), h5.fr (e.1.mono fun _ _ _ => rq_nN) (e.2.mono fun _ _ _ => rq_nN), fun k hk => (h6 k hk).fr hk (e.1.mono fun _ _ _ => rq_nI') (e.2.mono fun _ _ _ => rq_nI'), h7.fr (e.1.mono fun _ _ _ => rq_nG) (e.2.mono fun _ _ _ => rq_nG)⟩
/-- a write to such a cell -/
theorem rq_same.uI {a b k : Nat} {v : Int32} (h : rq_scr a b k) : rq_same I J (sx_uI I a b k v) J := ⟨fun x y z c => if_neg (fun q => c (by rw [q.1, q.2.1, q.2.2]; exact h)), fun _ _ _ _ => rfl⟩
theorem rq_same.uJ {a b k : Nat} {v : Int64} (h : rq_scr a b k) : rq_same I J I (sx_uJ J a b k v) := ⟨fun _ _ _ _ => rfl, fun x y z c => if_neg (fun q => c (by rw [q.1, q.2.1, q.2.2]; exact h))⟩
theorem rq_s9 {k : Nat} (h : k ≠ 1 ∧ k ≠ 10 ∧ k ≠ 12 ∧ k ≠ 19 ∧ k ≠ 30) : rq_scr 9 0 k := by unfold rq_scr; omega
theorem rq_same.t0 {v : Int32} : rq_same I J (sx_uI I 9 0 0 v) J := .uI (rq_s9 (by omega))
theorem rq_same.byLot {r1 r2 : Nat} {x3 x4 : Int32} (h : r2 = 2 ∨ r2 = 3) : rq_same I J I (j_X9_byLot I J r1 r2 x3 x4) := ⟨fun _ _ _ _ => rfl, fun x y z c => m_byLot_ne (fun q => c (by unfold rq_scr; omega))⟩
theorem rq_same.laySome : rq_same I J I (j_X9_laySome I J) := ⟨fun _ _ _ _ => rfl, fun x y z c => if_neg (fun q => c (by unfold rq_scr; omega))⟩
theorem rq_same.becomes {r0 r1 : Nat} (h : r0 = 1 ∨ 28 ≤ r0) : rq_same I J (i_X5_becomes I J r0 r1) (j_X5_becomes I J r0 r1) := ⟨fun x y z c => if_neg (fun q => c (by unfold rq_scr rq_cs; omega)), fun x y z c => if_neg (fun q => c (by unfold rq_scr rq_cs; omega))⟩
theorem rq_same.learnLot {r0 : Nat} {x : Int32} (h : r0 = 1 ∨ 28 ≤ r0) : rq_same I J I (j_X5_learnLot I J r0 x) := ⟨fun _ _ _ _ => rfl, fun x y z c => if_neg (fun q => c (by unfold rq_scr rq_cs; omega))⟩
/-- both sides of a call, and the relation behind it -/
def rq_pair (sc : Nat × (Nat → Int32)) (d : Nat) (c8 c9 : sx_C) (lv8 lv9 : sx_L) (I : sx_I) (J : sx_J) : Prop := ∃ v I1 J1 I2 J2, sx_E sc d c8 0 lv8 [] I J (some v, I1, J1) ∧ sx_E sc d c9 0 lv9 [] I1 J1 (some v, I2, J2) ∧ rq_Rel I2 J2
theorem rq_pair.rd {sc : Nat × (Nat → Int32)} {d : Nat} {c8 c9 : sx_C} {lv8 lv9 : sx_L} {v v2 : sx_V} (h : rq_Rel I J) (h8 : sx_E sc d c8 0 lv8 [] I J (some v, I1, J1)) (e1 : rq_same I J I1 J1) (h9 : sx_E sc d c9 0 lv9 [] I1 J1 (some v2, I2, J2)) (e2 : rq_same I1 J1 I2 J2) (e : v = v2) : rq_pair sc d c8 c9 lv8 lv9 I J := ⟨v, I1, J1, I2, J2, h8, e ▸ h9, (h.same e1).same e2⟩
end RQL
