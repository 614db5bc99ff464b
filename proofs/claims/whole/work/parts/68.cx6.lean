/-! what lies there behind the constructors -/
def cx_ln8 : List (Nat × Int32) := [(7, -1), (6, -1), (5, -1), (4, -1), (3, -1), (2, -1), (1, -1), (0, -1)]
def cx_I0 : sx_I := fun kd i k => if kd = 16 ∧ i = 0 then cx_fI cx_ln8 k else if kd = 4 ∧ k = 0 then Int32.ofInt (-1) else 0
def cx_J0 : sx_J := fun _ _ _ => 0
def cx_sp (i : Nat) : Nat := if i = 0 then 4 else if i = 1 then 8 else if i < 4 then 134 + 4 * i else if i < 28 then 4 * i - 1 else 8 * i - 112
def cx_pos (kd i : Nat) : Nat := match kd with
  | 0 => 13
  | 1 => 124
  | 2 => 111
  | 3 => 119
  | 4 => 126 + 2 * i
  | 5 => cx_sp i
  | 6 => 2
  | 7 => 116
  | 8 => 0
  | 9 => 150
  | 10 => (match i with | 0 => 3 | 1 => 117 | 2 => 118 | _ => 125)
  | 11 => cx_sp i + 3
  | 13 => 1
  | 14 => (match i with | 0 => 12 | _ => 14)
  | 16 => (match i with | 0 => 151 | 1 => 152 | 2 => 153 | 3 => 154 | 4 => 155 | 5 => 157 | 6 => 159 | 7 => 163 | _ => 165)
  | 17 => (match i with | 0 => 156 | 1 => 158 | 2 => 160 | 3 => 161 | _ => 164)
  | 18 => 162
  | 20 => cx_sp i + 1
  | 21 => cx_sp i + 2
  | _ => 127 + 2 * i
def cx_rl (rs : List (Nat × Nat)) (k : Nat) : Option Nat := (rs.find? (fun e => e.1 == k)).map (fun e => e.2)
def cx_of (kd i k t : Nat) : cx_F := match t with
  | 1 => .inr (.inl 0)
  | 2 => .inr (.inr ((sx_eR kd i k).map (fun q => cx_pos q.1 q.2)))
  | _ => .inl (cx_I0 kd i k)
def cx_us (kd i : Nat) : List (Nat × Int32) := if kd = 16 ∧ i = 0 then cx_ln8 else []
def cx_cmp (kd i : Nat) (c : cx_C) : Bool := match c with
  | .inl o => decide (kd < 10) && decide (o.1 = kd) && decide (o.2 = (sx_ft kd).mapIdx (fun k t => cx_of kd i k t))
  | .inr a => decide (10 ≤ kd) && decide (a.2.1 = sx_eN kd i) && (if sx_isI kd = true then decide (a.1 = 0) && decide (a.2.2.1 = cx_us kd i) else if sx_isJ kd = true then decide (a.1 = 1) else if kd = 18 then decide (a.1 = 2) && decide (a.2.2.1 = []) else decide (kd = 13 ∨ kd = 14) && decide (a.1 = kd - 10) && a.2.2.2.all (fun e => decide (e.1 < sx_eN kd i)) && (List.range (sx_eN kd i)).all (fun k => decide (cx_rl a.2.2.2 k = (sx_eR kd i k).map (fun q => cx_pos q.1 q.2))))
def cx_all (ws : List cx_C) : Bool := sx_ids.all (fun z => match ws[cx_pos z.1 z.2]? with | some c => cx_cmp z.1 z.2 c | none => false)
def cx_lv0 : sx_L := [some (.inr (.inr (19, 0))), none, none, none]
def cx_lv1 : sx_L := [some (.inr (.inr (19, 0))), some (.inr (.inr (0, 0))), some (.inr (.inr (0, 150))), none]
def cx_out : cx_R := cx_go 700 4 600000 7302250 10 cL_law 16 0 cx_lv0 [] []
def cx_good (r : cx_R) : Bool := match r with
  | some (lv, [], ws) => decide (lv = cx_lv1) && decide (ws.length ≤ 600) && decide (cx_sl ws ≤ 10000) && cx_all ws
  | _ => false
theorem cx_chk : cx_good cx_out = true := by decide +kernel
theorem cx_ids_ne : ∀ z ∈ sx_ids, z.1 ≠ 15 ∧ z.1 ≠ 19 := by decide +kernel
theorem cx_ids_nd : (sx_ids.map (fun z => cx_pos z.1 z.2)).Nodup := by decide +kernel
theorem cx_eR_ne {kd i k : Nat} {q : Nat × Nat} (h : sx_eR kd i k = some q) : q.1 ≠ 15 ∧ q.1 ≠ 19 := by
  unfold sx_eR at h
  split at h
  all_goals (try split at h)
  all_goals (try split at h)
  all_goals (try (cases h; done))
  all_goals (injection h with h; subst h; exact ⟨by simp, by simp⟩)
theorem cx_fR_eq (b : Nat) (rs : List (Nat × Nat)) (k : Nat) : cx_fR b rs k = (cx_rl rs k).map (fun i => b + i) := by
  induction rs with
  | nil => rfl
  | cons u us ih =>
    rw [cx_fR, cx_rl, List.find?_cons]
    unfold va_up
    by_cases h : u.1 = k
    · rw [if_pos h.symm]
      simp [h]
    · rw [if_neg (fun q => h q.symm), ih, cx_rl]
      have : (u.1 == k) = false := by simp [h]
      rw [this]
theorem cx_rl_none {rs : List (Nat × Nat)} {n k : Nat} (h : rs.all (fun e => decide (e.1 < n)) = true) (hk : n ≤ k) : cx_rl rs k = none := by
  rw [cx_rl, List.find?_eq_none.mpr]
  · rfl
  · intro e he q
    have h1 := of_decide_eq_true (List.all_eq_true.mp h e he)
    have h2 : e.1 = k := by simpa using q
    omega
theorem cx_eR_none {kd i k : Nat} (h : kd = 13 ∨ kd = 14) (hk : sx_eN kd i ≤ k) : sx_eR kd i k = none := by
  rcases h with rfl | rfl
  · have : 8 ≤ k := hk
    simp only [sx_eR]
    rw [if_neg (by omega)]
  · simp only [sx_eR]
    by_cases hi : i = 0
    · subst hi
      have : 2 ≤ k := hk
      rw [if_pos rfl, if_neg (by omega)]
    · have : 24 ≤ k := by
        cases i with
        | zero => exact absurd rfl hi
        | succ i => exact hk
      rw [if_neg hi, if_neg (by omega)]
section CXE
variable {b : Nat} {cA : Nat → ClassId} {ad : Nat → Nat → Nat}
theorem cx_c2 (had : ∀ kd i, kd ≠ 15 → kd ≠ 19 → ad kd i = b + cx_pos kd i) {kd i : Nat} {c : cx_C} (h : cx_cmp kd i c = true) : cx_e b cA c = sx_c2 ad cA kd i (cx_I0 kd i) (cx_J0 kd i) := by
  have hm : ∀ k, ((sx_eR kd i k).map (fun q => cx_pos q.1 q.2)).map (fun i => b + i) = (sx_eR kd i k).map (fun q => ad q.1 q.2) := by
    intro k
    cases hq : sx_eR kd i k with
    | none => rfl
    | some q =>
      obtain ⟨h1, h2⟩ := cx_eR_ne hq
      rw [Option.map_some, Option.map_some, Option.map_some, had q.1 q.2 h1 h2]
  rcases c with ⟨o, fs⟩ | ⟨t, n, us, rs⟩
  · simp only [cx_cmp, Bool.and_eq_true, decide_eq_true_eq] at h
    obtain ⟨⟨h1, rfl⟩, h3⟩ := h
    rw [sx_c2O h1, cx_e, h3]
    congr 2
    apply List.ext_getElem?
    intro k
    rw [List.getElem?_map, List.getElem?_mapIdx, sx_fs, List.getElem?_mapIdx, Option.map_map]
    cases (sx_ft o)[k]? with
    | none => rfl
    | some t =>
      show some (cx_fv b (cx_of o i k t)) = some (sx_fv ad (cx_I0 o i) (cx_J0 o i) o i k t)
      match t with
      | 0 => rfl
      | 1 => rfl
      | 2 => simp only [cx_of, sx_fv, cx_fv, hm]
      | t + 3 => rfl
  · simp only [cx_cmp, Bool.and_eq_true, decide_eq_true_eq] at h
    obtain ⟨⟨h1, rfl⟩, h3⟩ := h
    by_cases hI : sx_isI kd = true
    · rw [if_pos hI] at h3
      simp only [Bool.and_eq_true, decide_eq_true_eq] at h3
      obtain ⟨rfl, rfl⟩ := h3
      rw [sx_c2I hI]
      show (Sum.inl (cA 0, sx_eN kd i, Sum.inl (cx_fI (cx_us kd i))) : va_E) = _
      congr 4
      funext k
      unfold cx_us cx_I0
      by_cases hz : kd = 16 ∧ i = 0
      · rw [if_pos hz, if_pos hz]
      · rw [if_neg hz, if_neg hz, if_neg (fun q => by omega)]; rfl
    · rw [if_neg hI] at h3
      by_cases hJ : sx_isJ kd = true
      · rw [if_pos hJ, decide_eq_true_eq] at h3
        subst h3
        rw [sx_c2J hJ]
        rfl
      · rw [if_neg hJ] at h3
        by_cases h18 : kd = 18
        · rw [if_pos h18] at h3
          simp only [Bool.and_eq_true, decide_eq_true_eq] at h3
          obtain ⟨rfl, rfl⟩ := h3
          subst h18
          rfl
        · rw [if_neg h18] at h3
          simp only [Bool.and_eq_true, decide_eq_true_eq] at h3
          obtain ⟨⟨⟨h4, rfl⟩, h6⟩, h7⟩ := h3
          have hf : cx_fR b rs = fun k => (sx_eR kd i k).map (fun q => ad q.1 q.2) := by
            funext k
            rw [cx_fR_eq]
            by_cases hk : k < sx_eN kd i
            · have h8 := of_decide_eq_true (List.all_eq_true.mp h7 k (List.mem_range.mpr hk))
              rw [h8, hm]
            · rw [cx_rl_none h6 (by omega), cx_eR_none h4 (by omega)]; rfl
          rcases h4 with rfl | rfl
          · show (Sum.inl (cA 3, sx_eN 13 i, Sum.inr (Sum.inr (Sum.inr (Sum.inr (cx_fR b rs))))) : va_E) = _
            rw [hf]; rfl
          · show (Sum.inl (cA 4, sx_eN 14 i, Sum.inr (Sum.inr (Sum.inr (Sum.inr (cx_fR b rs))))) : va_E) = _
            rw [hf]; rfl
theorem cx_pool {D : va_G} {H : Heap} {ws : List cx_C} (had : ∀ kd i, kd ≠ 15 → kd ≠ 19 → ad kd i = b + cx_pos kd i) (ha : cx_all ws = true) (hP : va_P D vwCl (cx_ws b cA ws) H) : va_P D vwCl (sx_ws ad cA cx_I0 cx_J0) H := by
  intro k q hq
  rw [sx_ws, List.getElem?_map] at hq
  cases hz : sx_ids[k]? with
  | none => rw [hz] at hq; cases hq
  | some z =>
    rw [hz] at hq
    cases hq
    have hm := List.mem_of_getElem? hz
    have h1 := List.all_eq_true.mp ha z hm
    split at h1
    · next c hc =>
      have h2 := hP _ _ (cx_wat (b := b) (cA := cA) hc)
      obtain ⟨n1, n2⟩ := cx_ids_ne z hm
      rw [cx_c2 had h1, ← had z.1 z.2 n1 n2] at h2
      exact h2
    · cases h1
theorem cx_pD (had : ∀ kd i, kd ≠ 15 → kd ≠ 19 → ad kd i = b + cx_pos kd i) (I : sx_I) (J : sx_J) : va_D (cx_A b) (sx_ws ad cA I J) := by
  have key : ∀ (i : Nat) (x : Nat × va_E), (sx_ws ad cA I J)[i]? = some x → ∃ z, sx_ids[i]? = some z ∧ x.1 = b + cx_pos z.1 z.2 := by
    intro i x hx
    rw [sx_ws, List.getElem?_map] at hx
    cases hz : sx_ids[i]? with
    | none => rw [hz] at hx; cases hx
    | some z =>
      rw [hz] at hx
      cases hx
      obtain ⟨n1, n2⟩ := cx_ids_ne z (List.mem_of_getElem? hz)
      exact ⟨z, rfl, had z.1 z.2 n1 n2⟩
  refine ⟨fun i j x y hx hy hxy => ?_, fun k x hx => ?_⟩
  · obtain ⟨z, h1, h2⟩ := key i x hx
    obtain ⟨w, h3, h4⟩ := key j y hy
    have e : cx_pos z.1 z.2 = cx_pos w.1 w.2 := by omega
    have g1 : (sx_ids.map (fun z => cx_pos z.1 z.2))[i]? = some (cx_pos z.1 z.2) := by rw [List.getElem?_map, h1]; rfl
    have g2 : (sx_ids.map (fun z => cx_pos z.1 z.2))[j]? = some (cx_pos z.1 z.2) := by rw [List.getElem?_map, h3, e]; rfl
    exact (List.getElem?_inj (List.getElem?_eq_some_iff.mp g1).1 cx_ids_nd).mp (g1.trans g2.symm)
  · obtain ⟨z, h1, h2⟩ := key k x hx
    show b ≤ x.1
    omega
end CXE
/-- the two stand in the relation at the start -/
theorem cx_rel : rq_Rel cx_I0 cx_J0 := by
  have h0 : ∀ kd i k, ¬ (kd = 16 ∧ i = 0) → kd ≠ 4 → cx_I0 kd i k = 0 := fun kd i k h1 h2 => by
    unfold cx_I0
    rw [if_neg h1, if_neg (fun q => h2 q.1)]
  have hn : nI 0 = 0 := nI_0
  refine ⟨fun r hr => ⟨?_, Or.inl ?_, fun k hk => ?_⟩, ⟨⟨0, by decide, ?_, ?_, fun k hk => by omega⟩, ?_⟩, ⟨0, by decide, ?_, ?_, fun k hk => by omega⟩, ?_, ⟨fun _ => 0, fun _ => 0, ?_, ⟨fun k hk => ?_, fun p hp => rfl⟩, ?_, ?_⟩, fun k hk => Or.inl ⟨?_, ?_⟩, ⟨0, 0, by decide, by decide, ?_, ?_, ?_, fun i hi => by omega⟩⟩
  · have : ∀ r, r < 8 → cx_fI cx_ln8 r = Int32.ofInt (-1) := by decide +kernel
    exact this r hr
  · rfl
  · rw [h0 _ _ _ (by omega) (by decide), h0 _ _ _ (by omega) (by decide)]
  · rfl
  · rfl
  · rfl
  · rfl
  · rfl
  · rfl
  · exact ⟨rfl, rfl, rfl, rfl, rfl, rfl, rfl, rfl, rfl, rfl, fun p hp => absurd hp (Nat.not_lt_zero p)⟩
  · rw [h0 _ _ _ (by omega) (by decide)]; rfl
  · exact ⟨by decide, by decide, by decide, by decide, by decide, by decide, by decide, by decide, fun q => absurd q (Nat.lt_irrefl 0), fun p hp => absurd hp (Nat.not_lt_zero p)⟩
  · exact ⟨fun p _ _ => rfl, fun p _ => Nat.zero_le _, fun q => absurd q (Nat.lt_irrefl 0), fun q => absurd rfl q⟩
  · rw [h0 _ _ _ (by omega) (by decide)]
  · rw [h0 _ _ _ (by omega) (by decide)]
  · rfl
  · rfl
  · rfl
