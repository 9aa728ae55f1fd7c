/-! the reference goes deep -/
theorem rR.pop {el : Nat → List (Nat × Nat)} {Q : List Nat} {od lo cu : Nat → Nat} {lp : Nat → Bool} {hs pr : List Nat} {ne v : Nat} {τ : sS} (h : rR el Q od lo cu lp hs (v :: pr) ne τ) : rR el Q od lo cu lp hs pr ne (uI τ 90 63 (nI pr.length)) := by
  obtain ⟨a1, a2, a3, a4, ⟨a5, a6⟩, ⟨a7, a8⟩, a9, a10, a11, a12, a13⟩ := h
  exact ⟨a1, a2, a3, a4, ⟨a5.2.c (fun _ _ => rfl), rfl⟩, ⟨a7.c (fun _ _ => rfl), a8⟩, a9, a10, a11, a12, a13.2.c (fun _ _ => rfl) (fun _ _ => rfl)⟩
theorem rR.low {el : Nat → List (Nat × Nat)} {Q : List Nat} {od lo cu : Nat → Nat} {lp : Nat → Bool} {hs pa : List Nat} {ne v x : Nat} {τ : sS} (h : rR el Q od lo cu lp hs pa ne τ) : rR el Q od (pu lo v x) cu lp hs pa ne (uI τ 155 v (nI x - 1)) := by
  obtain ⟨a1, a2, a3, a4, ⟨a5, a6⟩, ⟨a7, a8⟩, a9, a10, a11, a12, a13⟩ := h
  refine ⟨a1, fun w hw => ?_, a3, a4, ⟨a5.c (fun _ _ => rfl), a6⟩, ⟨a7.c (fun _ _ => rfl), a8⟩, a9, a10, a11, a12, a13.c (fun _ _ => rfl) (fun _ _ => rfl)⟩
  by_cases q : w = v
  · rw [q, vI_e, pu_s]
  · rw [vI_q (fun z => q z.2), pu_n q]; exact a2 w hw
theorem pu_id {α : Type} {f : Nat → α} {k : Nat} {x : α} (h : x = f k) : pu f k x = f := funext fun j => by
  by_cases q : j = k
  · rw [q, pu_s, h]
  · rw [pu_n q]
theorem cmp1 {a b : Nat} (ha : 1 ≤ a) (hb : 1 ≤ b) (ha2 : a < 2 ^ 31) (hb2 : b < 2 ^ 31) : nI a - 1 ≤ nI b - 1 ↔ a ≤ b := by
  rw [nI_m1 (by omega), nI_m1 (by omega)]
  constructor
  · intro h
    refine Classical.byContradiction (fun c => ?_)
    exact nI_ge (a := b - 1) (b := a - 1) (by omega) (by omega) h
  · intro h
    exact nI_le (by omega) (by omega)
theorem x_leaves {V : Nat → Prop} {el : Nat → List (Nat × Nat)} {Q : List Nat} {od lo cu : Nat → Nat} {lp : Nat → Bool} {sg hr pr : List Nat} {ne v F : Nat} {τ : sS} {il : Bool} (hO : bO V el) (hF : 7000 < F) (hS : rSte el Q τ) (hV : V v) (h : rR el Q od lo cu lp (sg ++ v :: hr) pr ne τ) (hnd : (sg ++ v :: hr).Nodup) (hil : il = true ↔ sg ≠ [] ∨ v ∈ esc el v) : ∃ υ, L_X12_leaves F (nI v) τ = some υ ∧ rR el Q od lo cu (fun w => if w ∈ v :: sg then il else lp w) hr pr ne υ ∧ fm deM deK τ υ ∧ ∀ j, vI υ 155 j = vI τ 155 j := by
  obtain ⟨a1, a2, a3, a4, ⟨a5, a6⟩, ⟨a7, a8⟩, a9, a10, a11, a12, a13⟩ := h
  have hvm : v ∈ sg ++ v :: hr := by simp
  have vQ := a10 v hvm
  have v3 := a11 v vQ
  have hle := nodup_len hnd (fun x hx => a11 x (a10 x hx))
  have hlen : (sg ++ v :: hr).length = sg.length + hr.length + 1 := by rw [List.length_append, List.length_cons]; omega
  have nd := List.nodup_append.mp hnd
  have vsg : v ∉ sg := fun q => nd.2.2 v q v List.mem_cons_self rfl
  let is : Int32 := if il = true then 1 else 0
  have his : is01 is = true := by
    show is01 (if il = true then 1 else 0) = true
    cases il <;> rfl
  obtain ⟨υ, r1, r2, r3, r4, r5⟩ := x_l83 (F := F) (hn := 0) his v3 sg hr F τ a7 a8 hle (fun x hx => a11 x (a10 x (List.mem_append.mpr (Or.inl hx)))) vsg (by omega)
  have ed := (hS v vQ).1 F 0 (by omega) (by omega)
  rw [fEd_b (fun _ _ => Nat.zero_le _)] at ed
  have ed : L_X12_edgeFrom F (nI v) 0 τ = some (hEd (el v)) := ed
  have ll := el_len hO hV
  have e1 : L_X12_leaves F (nI v) τ = some υ := by
    unfold L_X12_leaves
    rw [a8, hlen, nI_pred, inb_n (by omega) (by omega), grd_s, nI_clamp (by omega)]
    by_cases s : sg = []
    · have e156 : vI τ 156 (sg.length + hr.length) = nI v := by
        rw [s] at a7 ⊢
        rw [List.length_nil, Nat.zero_add]
        exact a7.1
      rw [if_pos e156, ed, bd_s, x_l39 hO hS (by omega) vQ hV (el v) [] F _ rfl (by omega)]
      have ei : (if (∃ e, e ∈ el v ∧ e.2 = v) then (1 : Int32) else 0) = is := by
        show _ = if il = true then (1 : Int32) else 0
        have : (∃ e, e ∈ el v ∧ e.2 = v) ↔ il = true := by
          rw [hil, esc_mem]
          exact ⟨fun q => Or.inr q, fun q => q.resolve_left (fun z => z s)⟩
        simp only [this]
      rw [ei]
      exact r1 _
    · have e156 : ¬ vI τ 156 (sg.length + hr.length) = nI v := by
        cases sg with
        | nil => exact absurd rfl s
        | cons x l =>
          have q : vI τ 156 (l ++ v :: hr).length = nI x := a7.1
          have e : (x :: l).length + hr.length = (l ++ v :: hr).length := by rw [List.length_append, List.length_cons, List.length_cons]; omega
          rw [e, q]
          intro z
          have x3 := a11 x (a10 x (by simp))
          exact vsg (nI_ij (by omega) (by omega) z ▸ List.mem_cons_self)
      rw [if_neg e156, ed, bd_s]
      have ei : is = 1 := by
        show (if il = true then (1 : Int32) else 0) = 1
        rw [if_pos (hil.mpr (Or.inl s))]
      rw [ei] at r1
      obtain ⟨m, rfl⟩ : ∃ m, F = m + 1 := ⟨F - 1, by omega⟩
      rw [L_X12_leaves_39]
      by_cases d : hEd (el v) = -1
      · rw [if_pos d]; exact r1 _
      · rw [if_neg d, if_neg (show ¬ (1 : Int32) = 0 by decide)]; exact r1 _
  have hsp : sg ++ v :: hr = (sg ++ [v]) ++ hr := by simp
  have mem1 : ∀ w, w ∈ v :: sg ↔ w ∈ sg ++ [v] := fun w => by
    rw [List.mem_append, List.mem_singleton, List.mem_cons]
    exact ⟨fun q => q.symm, fun q => q.symm⟩
  have S5 : ∀ w, w ∉ v :: sg → (w ∈ sg ++ v :: hr ↔ w ∈ hr) := by
    intro w hw
    rw [hsp, List.mem_append]
    exact ⟨fun q => q.resolve_left (fun z => hw ((mem1 w).mpr z)), fun q => Or.inr q⟩
  have nS : ∀ w, w ∈ hr → w ∉ v :: sg := by
    intro w hw q
    rw [hsp] at hnd
    exact (List.nodup_append.mp hnd).2.2 w ((mem1 w).mp q) w hw rfl
  have a7' : rwS τ 156 ((sg ++ [v]) ++ hr) := hsp ▸ a7
  have fr : ∀ a j, a ∉ [159, 160] → a ≠ 90 → vI υ a j = vI τ a j := fun a j q z => r5.r q z
  refine ⟨υ, e1, ⟨fun w hw => ?_, fun w hw => ?_, fun w hw => ?_, fun w hw q1 q2 => ?_, ⟨a5.c (fun j _ => fr 157 j (by decide) (by decide)), ?_⟩, ⟨(rwS.app (l1 := sg ++ [v]) a7').c (fun j _ => fr 156 j (by decide) (by decide)), r4⟩, ?_, fun w hw => ?_, a11, a12, a13.c (fun j _ => fr 158 j (by decide) (by decide)) (fun _ _ => rfl)⟩, r5.mo (by decide) (by decide), fun j => fr 155 j (by decide) (by decide)⟩
  · exact (fr 154 w (by decide) (by decide)).trans (a1 w hw)
  · exact (fr 155 w (by decide) (by decide)).trans (a2 w ((S5 w (nS w hw)).mpr hw))
  · by_cases q : w ∈ v :: sg
    · rw [(r2 w q).1, if_neg (fun z => nS w z q)]
    · rw [(r3 w q).1, a3 w hw]
      simp only [S5 w q]
  · by_cases q : w ∈ v :: sg
    · rw [(r2 w q).2]
      simp only [if_pos q]
      rfl
    · rw [(r3 w q).2]
      simp only [if_neg q]
      exact a4 w hw q1 (fun z => q2 ((S5 w q).mp z))
  · exact (r5.f (by decide) (by decide)).trans a6
  · exact (r5.f (by decide) (by decide)).trans a9
  · exact a10 w ((S5 w (nS w hw)).mpr hw)
def rI (el : Nat → List (Nat × Nat)) (Q : List Nat) (σ0 : sS) (pa : List Nat) (ne : Nat) (cu : Nat → Nat) (τ : sS) : Prop := fm deM deK σ0 τ ∧ ∃ od lo lp hs, rR el Q od lo cu lp hs pa ne τ ∧ TI (esc el) (fun _ => false) od lo cu (fun _ => false) lp hs pa ne ∧ ∀ k, 1 ≤ k → k ≤ ne → ∃ w, w < 3000 ∧ od w = k
def rmo (Q : List Nat) (σ τ : sS) : Prop := ∀ w, w ∈ Q → vI σ 154 w ≠ -1 → vI τ 154 w ≠ -1
def rmu (el : Nat → List (Nat × Nat)) (Q : List Nat) (cu : Nat → Nat) (pa : List Nat) : Nat := 2 * sm (fun u => (el u).length - cu u) Q + pa.length
theorem rmu_e {el : Nat → List (Nat × Nat)} {Q : List Nat} {cu : Nat → Nat} {v : Nat} (hv : v ∈ Q) (h : cu v < (el v).length) : sm (fun u => (el u).length - pu cu v (cu v + 1) u) Q + 1 ≤ sm (fun u => (el u).length - cu u) Q := by
  refine sm_up (r := v) (fun b => ?_) ?_ Q hv
  · by_cases q : b = v
    · rw [q, pu_s]; omega
    · rw [pu_n q]; exact Nat.le_refl _
  · show (el v).length - pu cu v (cu v + 1) v + 1 ≤ _
    rw [pu_s]; omega
theorem ffg {k : Nat} : pu (fun _ => false) k ((fun _ => false) k || (fun _ => false) k) = (fun _ => false : Nat → Bool) := pu_id rfl
theorem x_tF {V : Nat → Prop} {el : Nat → List (Nat × Nat)} {Q : List Nat} {σ0 : sS} {F : Nat} (hO : bO V el) (hQ : ∀ x, x ∈ Q → V x) (hcl : ∀ x, x ∈ Q → ∀ e, e ∈ el x → e.2 ∈ Q) (hS : ∀ τ, fm deM deK σ0 τ → rSte el Q τ) (hF : 7000 < F) : ∀ (n : Nat) (pa : List Nat) (ne : Nat) (cu : Nat → Nat) (τ : sS), rI el Q σ0 pa ne cu τ → rmu el Q cu pa < n → ∃ υ, (∀ kx, L_X12_turnsFrom_15 F kx n τ = kx υ) ∧ (∃ ne' cu', rI el Q σ0 [] ne' cu' υ ∧ ∀ u, cu u ≤ cu' u) ∧ rmo Q τ υ := by
  intro n
  induction n with
  | zero => intro pa ne cu τ h hn; omega
  | succ n ih =>
    intro pa ne cu τ h hn
    obtain ⟨hf, od, lo, lp, hs, hR, hT, hsu⟩ := id h
    cases pa with
    | nil =>
      refine ⟨τ, fun kx => ?_, ⟨ne, cu, h, fun _ => Nat.le_refl _⟩, fun _ _ q => q⟩
      rw [L_X12_turnsFrom_15, hR.2.2.2.2.1.2]
      rfl
    | cons v pr =>
      obtain ⟨a1, a2, a3, a4, ⟨a5, a6⟩, ⟨a7, a8⟩, a9, a10, a11, a12, a13⟩ := id hR
      have vh : v ∈ hs := hT.1.2.2.2.2.2.1 v List.mem_cons_self
      have vQ := a10 v vh
      have v3 := a11 v vQ
      have vV := hQ v vQ
      have hnd := pw_nd hT.1.2.2.2.1
      have pnd := pw_nd hT.1.2.2.2.2.1
      have hpl : (v :: pr).length ≤ hs.length := List.Nodup.length_le_of_subset pnd (fun x hx => hT.1.2.2.2.2.2.1 x hx)
      have p3 := nodup_len pnd (fun x hx => a11 x (a10 x (hT.1.2.2.2.2.2.1 x hx)))
      rw [List.length_cons] at p3 a6 hpl
      have vpr : v ∉ pr := (List.nodup_cons.mp pnd).1
      obtain ⟨c, c1, c2, c3, c4, c5⟩ := a13.1
      have odb := hT.1.2.2.1
      have od1 : ∀ w, w ∈ hs → 1 ≤ od w ∧ od w ≤ 3000 := fun w hw => by have := hT.1.1 w hw; have := odb w; omega
      have lo1 : ∀ w, w ∈ hs → 1 ≤ lo w ∧ lo w ≤ 3000 := fun w hw => by
        obtain ⟨q1, u, u1, u2, -⟩ := hT.2.1 w hw
        have := od1 u u1
        omega
      have ed := (hS τ hf v vQ).1 F c (by omega) c1
      have ed2 : fEd c (el v) = hEd ((el v).drop (cu v)) := by
        rw [show fEd c (el v) = fEd c ((el v).take (cu v) ++ (el v).drop (cu v)) by rw [List.take_append_drop], fEd_a c4, fEd_b c5]
      rw [ed2] at ed
      have head : ∀ kx, L_X12_turnsFrom_15 F kx (n + 1) τ = bd (some (hEd ((el v).drop (cu v)))) (fun rq10 => if rq10 = ((-1)) then (bnd (uI τ 90 63 (nI pr.length)) (fun σ12 => grd (inb (nI v) 3000) (grd (inb (nI v) 3000) (if (vI σ12 155 v) = (vI σ12 154 v) then (bd (L_X12_leaves F (nI v) σ12) (fun σ17 => L_X12_turnsFrom_170 F (L_X12_turnsFrom_15 F kx n) kx (nI v) σ17)) else (L_X12_turnsFrom_170 F (L_X12_turnsFrom_15 F kx n) kx (nI v) σ12))))) else (bnd (uI τ 158 pr.length (rq10 + 1)) (fun σ19 => bd2 (L_X12_goesBy (nI v) rq10 σ19) (fun rq21 σ22 => grd (inb rq21 3000) (if (vI σ22 154 rq21.toNatClampNeg) = ((-1)) then (bd (L_X12_enters rq21 σ22) (fun σ34 => L_X12_turnsFrom_15 F kx n σ34)) else (grd (inb rq21 3000) (if (vI σ22 159 rq21.toNatClampNeg) = 0 then (L_X12_turnsFrom_15 F kx n σ22) else (grd (inb rq21 3000) (grd (inb (nI v) 3000) (if (vI σ22 155 v) ≤ (vI σ22 154 rq21.toNatClampNeg) then (L_X12_turnsFrom_15 F kx n σ22) else (grd (inb rq21 3000) (grd (inb (nI v) 3000) (bnd (uI σ22 155 v (vI σ22 154 rq21.toNatClampNeg)) (fun σ32 => L_X12_turnsFrom_15 F kx n σ32)))))))))))))) := by
        intro kx
        rw [L_X12_turnsFrom_15, a6, if_neg (show ¬ nI (pr.length + 1) ≤ 0 from nI_ge (a := 0) (by omega) (by omega)), nI_pred, inb_n (show pr.length < 3000 by omega) (by omega), nI_clamp (show pr.length < 2 ^ 31 by omega)]
        simp only [grd_s, bnd_s]
        rw [a5.1, c2, ed, nI_clamp (show v < 2 ^ 31 by omega)]
      have mono : ∀ {od' lo' cu' : Nat → Nat} {lp' : Nat → Bool} {hs' pa' : List Nat} {ne' : Nat} {υ : sS}, rR el Q od' lo' cu' lp' hs' pa' ne' υ → (∀ w, od' w ≤ ne') → (∀ w, od w ≠ 0 → od' w ≠ 0) → rmo Q τ υ := by
        intro od' lo' cu' lp' hs' pa' ne' υ q1 q2 q3 w hw q z
        exact q3 w (fun e => q ((hR.ne0 odb hw).mpr e)) ((q1.ne0 q2 hw).mp z)
      have next : ∀ {od' lo' cu' : Nat → Nat} {lp' : Nat → Bool} {hs' pa' : List Nat} {ne' : Nat} {υ : sS}, fm deM deK τ υ → rR el Q od' lo' cu' lp' hs' pa' ne' υ → TI (esc el) (fun _ => false) od' lo' cu' (fun _ => false) lp' hs' pa' ne' → (∀ k, 1 ≤ k → k ≤ ne' → ∃ w, w < 3000 ∧ od' w = k) → (∀ w, od w ≠ 0 → od' w ≠ 0) → (∀ u, cu u ≤ cu' u) → rmu el Q cu' pa' < n → (∀ kx, L_X12_turnsFrom_15 F kx (n + 1) τ = L_X12_turnsFrom_15 F kx n υ) → ∃ υ, (∀ kx, L_X12_turnsFrom_15 F kx (n + 1) τ = kx υ) ∧ (∃ ne' cu', rI el Q σ0 [] ne' cu' υ ∧ ∀ u, cu u ≤ cu' u) ∧ rmo Q τ υ := by
        intro od' lo' cu' lp' hs' pa' ne' υ q1 q2 q3 q4 q5 q6 q7 q8
        obtain ⟨ω, r1, ⟨ne2, cu2, r2, r3⟩, r4⟩ := ih pa' ne' cu' υ ⟨hf.tr q1, od', lo', lp', hs', q2, q3, q4⟩ q7
        refine ⟨ω, fun kx => (q8 kx).trans (r1 kx), ⟨ne2, cu2, r2, fun u => Nat.le_trans (q6 u) (r3 u)⟩, fun w hw q => r4 w hw (mono q2 q3.1.2.2.1 q5 w hw q)⟩
      cases hd : (el v).drop (cu v) with
      | nil =>
        rw [hd] at head
        have hcu : cu v = (esc el v).length := by
          have := List.drop_eq_nil_iff.mp hd
          rw [esc, List.length_map]
          omega
        have hR0 := hR.pop
        have f0 : fm deM deK τ (uI τ 90 63 (nI pr.length)) := fm.uI (by first | exact Or.inl (by decide) | exact Or.inr ⟨rfl, by decide⟩)
        have e155 : vI (uI τ 90 63 (nI pr.length)) 155 v = nI (lo v) - 1 := hR0.2.1 v vh
        have e154 : vI (uI τ 90 63 (nI pr.length)) 154 v = nI (od v) - 1 := hR0.1 v vQ
        have lv := (hT.2.1 v vh).1
        have l1 := lo1 v vh
        have o1 := od1 v vh
        have mu1 : rmu el Q cu pr < n := by
          unfold rmu at hn ⊢
          rw [List.length_cons] at hn
          omega
        by_cases eq : lo v = od v
        · obtain ⟨sg, hr, ehs⟩ := List.append_of_mem vh
          rw [ehs] at hR0 hT hnd
          let il : Bool := decide (sg ≠ []) || decide (v ∈ esc el v)
          have hil : il = true ↔ sg ≠ [] ∨ v ∈ esc el v := by
            show (decide (sg ≠ []) || decide (v ∈ esc el v)) = true ↔ _
            rw [Bool.or_eq_true, decide_eq_true_iff, decide_eq_true_iff]
          obtain ⟨υ, x1, x2, x3, x4⟩ := x_leaves hO hF (hS _ (hf.tr f0)) vV hR0 hnd hil
          have T' : TI (esc el) (fun _ => false) od lo cu (fun _ => false) (fun w => if w ∈ v :: sg then il else lp w) hr pr ne := hT.rel (gA := false) hcu eq hil ⟨fun q => (nomatch q), fun q => by rcases q with ⟨m, _, q⟩ | ⟨_, m, _, q⟩ <;> exact nomatch q⟩ (fun w hw => ⟨if_pos hw, rfl⟩) (fun w hw => if_neg hw) (fun _ _ _ => rfl) (fun _ _ _ => rfl)
          refine next (f0.tr x3) x2 T' hsu (fun _ q => q) (fun _ => Nat.le_refl _) mu1 (fun kx => ?_)
          rw [head kx, bd_s]
          rw [show hEd [] = -1 from rfl]
          rw [if_pos rfl, bnd_s, inb_n v3 (by omega), grd_s, grd_s, e155, e154, eq, if_pos rfl, x1, bd_s]
          unfold L_X12_turnsFrom_170
          cases hp : pr with
          | nil =>
            have : vI υ 90 63 = nI 0 := by have := x2.2.2.2.2.1.2; rw [hp] at this; exact this
            rw [if_pos (by rw [this]; decide)]
          | cons b l =>
            rw [hp] at x2 hT p3
            rw [List.length_cons] at p3
            have b63 : vI υ 90 63 = nI (l.length + 1) := x2.2.2.2.2.1.2
            have b157 : vI υ 157 l.length = nI b := x2.2.2.2.2.1.1.1
            have T2 := (hT.top).2 b List.mem_cons_self
            have bhs : b ∈ sg ++ v :: hr := hT.1.2.2.2.2.2.1 b (List.mem_cons_of_mem _ List.mem_cons_self)
            have bh : b ∈ hr := by
              rw [hp] at T'
              exact T'.1.2.2.2.2.2.1 b List.mem_cons_self
            have b155 : vI υ 155 b = nI (lo b) - 1 := x2.2.1 b bh
            have v155 : vI υ 155 v = nI (lo v) - 1 := (x4 v).trans e155
            have b3 := a11 b (x2.2.2.2.2.2.2.2.1 b bh)
            have lb := lo1 b (ehs ▸ bhs)
            have lob := (hT.2.1 b bhs).1
            rw [b63, if_neg (show ¬ nI (l.length + 1) ≤ 0 from nI_ge (a := 0) (by omega) (by omega)), nI_pred, inb_n v3 (by omega), inb_n (show l.length < 3000 by omega) (by omega), nI_clamp (show l.length < 2 ^ 31 by omega), b157, inb_n b3 (by omega), nI_clamp (show b < 2 ^ 31 by omega), nI_clamp (show v < 2 ^ 31 by omega), b155, v155]
            simp only [grd_s]
            rw [if_pos ((cmp1 lb.1 l1.1 (by omega) (by omega)).mpr (by omega))]
        · have ne155 : ¬ vI (uI τ 90 63 (nI pr.length)) 155 v = vI (uI τ 90 63 (nI pr.length)) 154 v := by
            rw [e155, e154]
            exact fun q => eq (nI_m1i (by omega) (by omega) q)
          cases hp : pr with
          | nil =>
            exfalso
            rw [hp] at hT
            obtain ⟨u, u1, u2, -⟩ := (hT.2.1 v vh).2
            obtain ⟨p, q1, q2, -⟩ := hT.2.2.2.2.1 u u1
            rw [List.mem_singleton.mp q1] at q2
            omega
          | cons b l =>
            rw [hp] at hT hR0 p3 head ne155 f0 e155 mu1
            rw [List.length_cons] at p3
            have bhs : b ∈ hs := hT.1.2.2.2.2.2.1 b (List.mem_cons_of_mem _ List.mem_cons_self)
            have lb := lo1 b bhs
            have b3 := a11 b (a10 b bhs)
            have T' := hT.back hcu (by omega)
            rw [ffg] at T'
            generalize hσ : uI τ 90 63 (nI (b :: l).length) = σ2 at hR0 ne155 f0 e155 head
            have b63 : vI σ2 90 63 = nI (l.length + 1) := hR0.2.2.2.2.1.2
            have b157 : vI σ2 157 l.length = nI b := hR0.2.2.2.2.1.1.1
            have b155 : vI σ2 155 b = nI (lo b) - 1 := hR0.2.1 b bhs
            have key : ∀ kx, L_X12_turnsFrom_15 F kx (n + 1) τ = if nI (lo b) - 1 ≤ nI (lo v) - 1 then L_X12_turnsFrom_15 F kx n σ2 else L_X12_turnsFrom_15 F kx n (uI σ2 155 b (nI (lo v) - 1)) := by
              intro kx
              rw [head kx, bd_s]
              rw [show hEd [] = -1 from rfl]
              rw [if_pos rfl, bnd_s, inb_n v3 (by omega), grd_s, grd_s, if_neg ne155]
              unfold L_X12_turnsFrom_170
              rw [b63, if_neg (show ¬ nI (l.length + 1) ≤ 0 from nI_ge (a := 0) (by omega) (by omega)), nI_pred, inb_n v3 (by omega), inb_n (show l.length < 3000 by omega) (by omega), nI_clamp (show l.length < 2 ^ 31 by omega), b157, inb_n b3 (by omega), nI_clamp (show b < 2 ^ 31 by omega), nI_clamp (show v < 2 ^ 31 by omega), b155, e155]
              simp only [grd_s, bnd_s]
            by_cases cc : lo b ≤ lo v
            · rw [Nat.min_eq_left cc, pu_id rfl] at T'
              refine next f0 hR0 T' hsu (fun _ q => q) (fun _ => Nat.le_refl _) mu1 (fun kx => ?_)
              rw [key kx, if_pos ((cmp1 lb.1 l1.1 (by omega) (by omega)).mpr cc)]
            · rw [Nat.min_eq_right (by omega)] at T'
              refine next (f0.tr (fm.uI (by first | exact Or.inl (by decide) | exact Or.inr ⟨rfl, by decide⟩))) (hR0.low (v := b) (x := lo v)) T' hsu (fun _ q => q) (fun _ => Nat.le_refl _) mu1 (fun kx => ?_)
              rw [key kx, if_neg (fun q => cc ((cmp1 lb.1 l1.1 (by omega) (by omega)).mp q))]
      | cons e r =>
        rw [hd] at head
        have em : e ∈ el v := List.mem_of_mem_drop (by rw [hd]; exact List.mem_cons_self)
        obtain ⟨so, eb⟩ := hO.2 v vV
        obtain ⟨e6, eV⟩ := eb e em
        have tQ := hcl v vQ e em
        have t3 := a11 _ tQ
        have hdl : cu v < (el v).length := by
          refine Classical.byContradiction (fun q => ?_)
          rw [List.drop_eq_nil_of_le (by omega)] at hd
          exact nomatch hd
        have hd2 : (esc el v).drop (cu v) = e.2 :: r.map (fun e => e.2) := by
          unfold esc
          rw [← List.map_drop, hd]
          rfl
        have hcn : ∀ w, w ≠ v → pu cu v (cu v + 1) w = cu w := fun w q => pu_n q
        have cule : ∀ u, cu u ≤ pu cu v (cu v + 1) u := fun u => by
          by_cases q : u = v
          · rw [q, pu_s]; omega
          · rw [hcn u q]; exact Nat.le_refl _
        have mu2 := rmu_e vQ hdl
        have f1 : fm deM deK τ (uI τ 158 pr.length (nI (e.1 + 1))) := fm.uI (by first | exact Or.inl (by decide) | exact Or.inr ⟨rfl, by decide⟩)
        have hd3 : (el v).drop (cu v + 1) = r := by rw [← List.drop_drop, hd]; rfl
        have so' : ((el v).take (cu v) ++ e :: r).Pairwise (fun a b => a.1 < b.1) := by rw [← hd, List.take_append_drop]; exact so
        have so1 := List.pairwise_append.mp so'
        have so2 := List.pairwise_cons.mp so1.2.1
        have hR1 : rR el Q od lo (pu cu v (cu v + 1)) lp hs (v :: pr) ne (uI τ 158 pr.length (nI (e.1 + 1))) := by
          refine ⟨a1, a2, a3, a4, ⟨a5.c (fun _ _ => rfl), by rw [List.length_cons]; exact a6⟩, ⟨a7.c (fun _ _ => rfl), a8⟩, a9, a10, a11, a12, ⟨?_, ?_⟩⟩
          · rw [vI_e, pu_s]
            refine ⟨e.1 + 1, by omega, rfl, by omega, fun x hx => ?_, fun x hx => ?_⟩
            · rw [List.take_succ, List.getElem?_eq_getElem hdl] at hx
              have he : (el v)[cu v] = e := by
                have := List.drop_eq_getElem_cons hdl
                rw [hd] at this
                injection this with q _
                exact q.symm
              rw [he] at hx
              rcases List.mem_append.mp hx with q | q
              · have := so1.2.2 x q e List.mem_cons_self; omega
              · rw [List.mem_singleton.mp q]; omega
            · rw [hd3] at hx
              exact so2.1 x hx
          · exact a13.2.c (fun j hj => vI_q (fun z => by have := z.2; omega)) (fun u hu => hcn u (fun q => vpr (q ▸ hu)))
        have g1 := (hS _ (hf.tr f1) v vQ).2 e em
        have key : ∀ kx, L_X12_turnsFrom_15 F kx (n + 1) τ = (if vI (uI τ 158 pr.length (nI (e.1 + 1))) 154 e.2 = -1 then (bd (L_X12_enters (nI e.2) (uI τ 158 pr.length (nI (e.1 + 1)))) (fun σ34 => L_X12_turnsFrom_15 F kx n σ34)) else (if vI (uI τ 158 pr.length (nI (e.1 + 1))) 159 e.2 = 0 then L_X12_turnsFrom_15 F kx n (uI τ 158 pr.length (nI (e.1 + 1))) else (if vI (uI τ 158 pr.length (nI (e.1 + 1))) 155 v ≤ vI (uI τ 158 pr.length (nI (e.1 + 1))) 154 e.2 then L_X12_turnsFrom_15 F kx n (uI τ 158 pr.length (nI (e.1 + 1))) else L_X12_turnsFrom_15 F kx n (uI (uI τ 158 pr.length (nI (e.1 + 1))) 155 v (vI (uI τ 158 pr.length (nI (e.1 + 1))) 154 e.2))))) := by
          intro kx
          rw [head kx, bd_s]
          rw [show hEd (e :: r) = nI e.1 from rfl, if_neg (nI_n1' (by omega)), bnd_s, nI_1, g1, bd2_s, inb_n t3 (by omega), inb_n v3 (by omega), nI_clamp (show e.2 < 2 ^ 31 by omega)]
          simp only [grd_s, bnd_s]
        generalize uI τ 158 pr.length (nI (e.1 + 1)) = σ2 at f1 hR1 g1 key
        have o154 : vI σ2 154 e.2 = nI (od e.2) - 1 := hR1.1 _ tQ
        by_cases c0 : od e.2 = 0
        · have nlt : ne < 3000 := ne_lt (n := 3000) t3 c0 hsu
          have tv : e.2 ≠ v := fun q => hT.1.1 v vh (q ▸ c0)
          have t0 := hT.1.2.2.2.2.2.2.2 e.2 c0
          obtain ⟨υ, x1, x2, x3⟩ := x_enters hR1 hnd (by rw [List.length_cons]; exact hpl) tQ c0 hT.1.1 nlt (by rw [hcn _ tv]; exact t0.1)
          refine next (f1.tr x3) x2 (hT.child hd2 c0) (od_sur t3 c0 hsu) (fun w q => ?_) cule ?_ (fun kx => ?_)
          · by_cases z : w = e.2
            · rw [z, pu_s]; omega
            · rw [pu_n z]; exact q
          · unfold rmu at hn ⊢
            simp only [List.length_cons] at hn ⊢
            omega
          · rw [key kx, if_pos ((hR1.ne0 odb tQ).mpr c0), x1, bd_s]
        · have n1 : ¬ vI σ2 154 e.2 = -1 := fun q => c0 ((hR1.ne0 odb tQ).mp q)
          have mu3 : rmu el Q (pu cu v (cu v + 1)) (v :: pr) < n := by
            unfold rmu at hn ⊢
            omega
          by_cases th : e.2 ∈ hs
          · have e159 : ¬ vI σ2 159 e.2 = 0 := by rw [hR1.2.2.1 _ tQ, if_pos th]; decide
            have e155 : vI σ2 155 v = nI (lo v) - 1 := hR1.2.1 v vh
            have l1 := lo1 v vh
            have o1 := od1 _ th
            have T' := hT.lookH hd2 th
            by_cases cc : lo v ≤ od e.2
            · rw [Nat.min_eq_left cc, pu_id rfl] at T'
              refine next f1 hR1 T' hsu (fun _ q => q) cule mu3 (fun kx => ?_)
              rw [key kx, if_neg n1, if_neg e159, e155, o154, if_pos ((cmp1 l1.1 o1.1 (by omega) (by omega)).mpr cc)]
            · rw [Nat.min_eq_right (by omega)] at T'
              refine next (f1.tr (fm.uI (by first | exact Or.inl (by decide) | exact Or.inr ⟨rfl, by decide⟩))) (hR1.low (v := v) (x := od e.2)) T' hsu (fun _ q => q) cule mu3 (fun kx => ?_)
              rw [key kx, if_neg n1, if_neg e159, e155, o154, if_neg (fun q => cc ((cmp1 l1.1 o1.1 (by omega) (by omega)).mp q))]
          · have e159 : vI σ2 159 e.2 = 0 := by rw [hR1.2.2.1 _ tQ, if_neg th]
            have T' := hT.lookR hd2 c0 th
            have ffh : pu (fun _ => false) v ((fun _ => false) v || (fun _ => false) e.2) = (fun _ => false : Nat → Bool) := pu_id rfl
            rw [ffh] at T'
            refine next f1 hR1 T' hsu (fun _ q => q) cule mu3 (fun kx => ?_)
            rw [key kx, if_neg n1, if_pos e159]
