def zR0 : String := "LiftGroup"
def zT0 : u_T := fun k => match k with
  | 0 => ("LiftGroup", "house", "LLiftGroup$House;", true)
  | 1 => ("LiftGroup", "cars", "[LLiftGroup$Car;", true)
  | 2 => ("LiftGroup", "trial", "LLiftGroup$Car;", true)
  | 3 => ("LiftGroup", "riders", "[LLiftGroup$Rider;", true)
  | 4 => ("LiftGroup", "log", "LLiftGroup$Log;", true)
  | 5 => ("LiftGroup", "carCount", "I", false)
  | 6 => ("LiftGroup", "riderCount", "I", false)
  | 7 => ("LiftGroup", "waitingForNone", "I", false)
  | 8 => ("LiftGroup", "stepCount", "I", false)
  | 9 => ("LiftGroup", "arrivedCount", "I", false)
  | 10 => ("LiftGroup", "longestRide", "I", false)
  | _ => ("LiftGroup", "allRides", "I", false)
def zY0 : Nat → FieldType := fun k => match k with
  | 0 => .object "LiftGroup$House"
  | 1 => .array (.object "LiftGroup$Car")
  | 2 => .object "LiftGroup$Car"
  | 3 => .array (.object "LiftGroup$Rider")
  | 4 => .object "LiftGroup$Log"
  | 5 => .int
  | 6 => .int
  | 7 => .int
  | 8 => .int
  | 9 => .int
  | 10 => .int
  | _ => .int
def zR1 : String := "LiftGroup$House"
def zT1 : u_T := fun k => match k with
  | 0 => ("LiftGroup$House", "startingAt", "[I", true)
  | 1 => ("LiftGroup$House", "goingTo", "[I", true)
  | 2 => ("LiftGroup$House", "floors", "I", false)
  | 3 => ("LiftGroup$House", "places", "I", false)
  | _ => ("LiftGroup$House", "recalled", "Z", false)
def zY1 : Nat → FieldType := fun k => match k with
  | 0 => .array .int
  | 1 => .array .int
  | 2 => .int
  | 3 => .int
  | _ => .boolean
def zR2 : String := "LiftGroup$Car"
def zT2 : u_T := fun k => match k with
  | 0 => ("LiftGroup$Car", "height", "I", false)
  | 1 => ("LiftGroup$Car", "direction", "I", false)
  | 2 => ("LiftGroup$Car", "door", "I", false)
  | 3 => ("LiftGroup$Car", "left", "I", false)
  | 4 => ("LiftGroup$Car", "stepsOpen", "I", false)
  | 5 => ("LiftGroup$Car", "locked", "Z", false)
  | 6 => ("LiftGroup$Car", "failed", "Z", false)
  | 7 => ("LiftGroup$Car", "curtainBroken", "Z", false)
  | 8 => ("LiftGroup$Car", "aboard", "I", false)
  | 9 => ("LiftGroup$Car", "waiting", "I", false)
  | 10 => ("LiftGroup$Car", "arrived", "I", false)
  | 11 => ("LiftGroup$Car", "putOut", "I", false)
  | _ => ("LiftGroup$Car", "boarded", "I", false)
def zY2 : Nat → FieldType := fun k => match k with
  | 0 => .int
  | 1 => .int
  | 2 => .int
  | 3 => .int
  | 4 => .int
  | 5 => .boolean
  | 6 => .boolean
  | 7 => .boolean
  | 8 => .int
  | 9 => .int
  | 10 => .int
  | 11 => .int
  | _ => .int
def zR3 : String := "LiftGroup$Rider"
def zT3 : u_T := fun k => match k with
  | 0 => ("LiftGroup$Rider", "from", "I", false)
  | 1 => ("LiftGroup$Rider", "to", "I", false)
  | 2 => ("LiftGroup$Rider", "state", "I", false)
  | 3 => ("LiftGroup$Rider", "carNumber", "I", false)
  | 4 => ("LiftGroup$Rider", "calledAt", "I", false)
  | _ => ("LiftGroup$Rider", "ride", "I", false)
def zY3 : Nat → FieldType := fun k => match k with
  | 0 => .int
  | 1 => .int
  | 2 => .int
  | 3 => .int
  | 4 => .int
  | _ => .int
def zR4 : String := "LiftGroup$Log"
def zT4 : u_T := fun k => match k with
  | 0 => ("LiftGroup$Log", "stepNumbers", "[I", true)
  | 1 => ("LiftGroup$Log", "kinds", "[I", true)
  | 2 => ("LiftGroup$Log", "riderNumbers", "[I", true)
  | 3 => ("LiftGroup$Log", "carNumbers", "[I", true)
  | _ => ("LiftGroup$Log", "count", "I", false)
def zY4 : Nat → FieldType := fun k => match k with
  | 0 => .array .int
  | 1 => .array .int
  | 2 => .array .int
  | 3 => .array .int
  | _ => .int
def zR10 : String := "LiftGroupModel"
def zT10 : u_T := fun k => match k with
  | 0 => ("LiftGroupModel", "thrown", "I", false)
  | 1 => ("LiftGroupModel", "floors", "I", false)
  | 2 => ("LiftGroupModel", "cars", "I", false)
  | 3 => ("LiftGroupModel", "places", "I", false)
  | 4 => ("LiftGroupModel", "height", "[I", true)
  | 5 => ("LiftGroupModel", "direction", "[I", true)
  | 6 => ("LiftGroupModel", "door", "[I", true)
  | 7 => ("LiftGroupModel", "left", "[I", true)
  | 8 => ("LiftGroupModel", "opened", "[I", true)
  | 9 => ("LiftGroupModel", "locked", "[Z", true)
  | 10 => ("LiftGroupModel", "failed", "[Z", true)
  | 11 => ("LiftGroupModel", "broken", "[Z", true)
  | 12 => ("LiftGroupModel", "recalled", "Z", false)
  | 13 => ("LiftGroupModel", "state", "[I", true)
  | 14 => ("LiftGroupModel", "carOf", "[I", true)
  | 15 => ("LiftGroupModel", "from", "[I", true)
  | 16 => ("LiftGroupModel", "to", "[I", true)
  | 17 => ("LiftGroupModel", "called", "[I", true)
  | 18 => ("LiftGroupModel", "took", "[I", true)
  | 19 => ("LiftGroupModel", "riders", "I", false)
  | 20 => ("LiftGroupModel", "steps", "I", false)
  | 21 => ("LiftGroupModel", "notes", "[I", true)
  | _ => ("LiftGroupModel", "noted", "I", false)
def zY10 : Nat → FieldType := fun k => match k with
  | 0 => .int
  | 1 => .int
  | 2 => .int
  | 3 => .int
  | 4 => .array .int
  | 5 => .array .int
  | 6 => .array .int
  | 7 => .array .int
  | 8 => .array .int
  | 9 => .array .boolean
  | 10 => .array .boolean
  | 11 => .array .boolean
  | 12 => .boolean
  | 13 => .array .int
  | 14 => .array .int
  | 15 => .array .int
  | 16 => .array .int
  | 17 => .array .int
  | 18 => .array .int
  | 19 => .int
  | 20 => .int
  | 21 => .array .int
  | _ => .int
abbrev zwCl : List vw_C := [(zR0, zT0, 12), (zR1, zT1, 5), (zR2, zT2, 13), (zR3, zT3, 6), (zR4, zT4, 5), (zR10, zT10, 23)]
def zwAll : List Cond := lw_tbl.filter goodWord
theorem zw_mem {w : Cond} (h : w ∈ lw_tbl) (hg : goodWord w = true) : w ∈ zwAll := List.mem_filter.mpr ⟨h, hg⟩
theorem zw_good (w : Cond) (h : w ∈ zwAll) : (w.onTables && w.keeps) = true ∨ ∃ ty, w = .arrayClass ty := good_of_word (List.mem_filter.mp h).2
theorem zw_at (i : Nat) {w : Cond} (h : lw_tbl[i]? = some w) (hg : goodWord w = true) : w ∈ zwAll := zw_mem (List.mem_of_getElem? h) hg
abbrev zS : Type := Nat → Nat → Int32
def zp (st : zS) (q j : Nat) (v : Int32) : zS := fun a b => if a = q ∧ b = j then v else st a b
theorem zp_s (st : zS) (q j : Nat) (v : Int32) : zp st q j v q j = v := by simp [zp]
theorem zp_o (st : zS) {q j j' : Nat} (v : Int32) (h : j' ≠ j) : zp st q j v q j' = st q j' := by simp [zp, h]
theorem zp_q (st : zS) {q q' j j' : Nat} (v : Int32) (h : q' ≠ q) : zp st q j v q' j' = st q' j' := by simp [zp, h]
theorem zp_row (st : zS) {q q' j : Nat} (v : Int32) (h : q' ≠ q) : zp st q j v q' = st q' := by funext b; simp [zp, h]
theorem zp_upd (st : zS) (q j : Nat) (v : Int32) : zp st q j v q = upd (st q) j v := by funext b; simp [zp, upd]
abbrev zE : Type := va_G × (Nat → ClassId) × (Nat → Nat) × Nat
def zw_kinds : List Nat := [0, 1, 5, 5, 6, 2, 2, 2, 2, 2, 7, 3, 3, 3, 3, 3, 3, 3, 3, 3, 3, 3, 3, 3, 3, 3, 3, 3, 3, 3, 3, 3, 3, 3, 3, 4, 8, 8, 8, 8, 10, 11, 11, 11, 11, 11, 12, 12, 12, 13, 13, 13, 13, 14, 14, 15, 16]
def zw_kind (q : Nat) : Nat := zw_kinds.getD q 99
theorem zw_kne {q a k : Nat} (h : zw_kind q = k) (h' : zw_kind a ≠ k) : a ≠ q := fun e => h' (by rw [e]; exact h)
theorem zw_kne' {q a k : Nat} (h : zw_kind q = k) (h' : zw_kind a ≠ k) : q ≠ a := fun e => h' (by rw [← e]; exact h)
theorem zw_out {q : Nat} (h : 57 ≤ q) : zw_kind q = 99 := by
  unfold zw_kind
  rw [List.getD_eq_getElem?_getD, List.getElem?_eq_none (show zw_kinds.length ≤ q from h)]
  rfl
theorem zw_lt {q k : Nat} (h : zw_kind q = k) (hk : k ≠ 99) : q < 57 := by
  rcases Nat.lt_or_ge q 57 with h1 | h1
  · exact h1
  · exact absurd (h.symm.trans (zw_out h1)) hk
theorem zw_all {P : Nat → Prop} [DecidablePred P] (h : ∀ q, q < 57 → P q) (h2 : ∀ q, zw_kind q = 99 → P q) : ∀ q, P q := fun q => by
  rcases Nat.lt_or_ge q 57 with h1 | h1
  · exact h q h1
  · exact h2 q (zw_out h1)
theorem zw_car {c : Nat} (h : c < 5) : zw_kind (5 + c) = 2 := by
  have : ∀ c, c < 5 → zw_kind (5 + c) = 2 := by decide
  exact this c h
theorem zw_rider {r : Nat} (h : r < 24) : zw_kind (11 + r) = 3 := by
  have : ∀ r, r < 24 → zw_kind (11 + r) = 3 := by decide
  exact this r h
def zw_n (E : zE) (kM : Nat) : Prop := ∀ q, zw_kind q < kM → q < E.2.2.2
def zw_v (ad : Nat → Nat) : Value → Value
  | .ref q => .ref (ad q)
  | v => v
def zw_entK (E : zE) (st : zS) (q k : Nat) : va_E := match k with
  | 0 => .inr (0, [.ref (E.2.2.1 1), .ref (E.2.2.1 4), .ref (E.2.2.1 9), .ref (E.2.2.1 10), .ref (E.2.2.1 35), .int (st q 5), .int (st q 6), .int (st q 7), .int (st q 8), .int (st q 9), .int (st q 10), .int (st q 11)])
  | 1 => .inr (1, [.ref (E.2.2.1 2), .ref (E.2.2.1 3), .int (st q 2), .int (st q 3), .int (st q 4)])
  | 2 => .inr (2, [.int (st q 0), .int (st q 1), .int (st q 2), .int (st q 3), .int (st q 4), .int (st q 5), .int (st q 6), .int (st q 7), .int (st q 8), .int (st q 9), .int (st q 10), .int (st q 11), .int (st q 12)])
  | 3 => .inr (3, [.int (st q 0), .int (st q 1), .int (st q 2), .int (st q 3), .int (st q 4), .int (st q 5)])
  | 4 => .inr (4, [.ref (E.2.2.1 36), .ref (E.2.2.1 37), .ref (E.2.2.1 38), .ref (E.2.2.1 39), .int (st q 4)])
  | 10 => .inr (5, [.int (st q 0), .int (st q 1), .int (st q 2), .int (st q 3), .ref (E.2.2.1 41), .ref (E.2.2.1 42), .ref (E.2.2.1 43), .ref (E.2.2.1 44), .ref (E.2.2.1 45), .ref (E.2.2.1 46), .ref (E.2.2.1 47), .ref (E.2.2.1 48), .int (st q 12), .ref (E.2.2.1 49), .ref (E.2.2.1 50), .ref (E.2.2.1 51), .ref (E.2.2.1 52), .ref (E.2.2.1 53), .ref (E.2.2.1 54), .int (st q 19), .int (st q 20), .ref (E.2.2.1 55), .int (st q 22)])
  | 5 => .inl (E.2.1 0, 10, .inl (st q))
  | 8 => .inl (E.2.1 0, 30, .inl (st q))
  | 11 => .inl (E.2.1 0, 5, .inl (st q))
  | 12 => .inl (E.2.1 1, 5, .inl (st q))
  | 13 => .inl (E.2.1 0, 48, .inl (st q))
  | 14 => .inl (E.2.1 0, 24, .inl (st q))
  | 15 => .inl (E.2.1 0, 120, .inl (st q))
  | 6 => .inl (E.2.1 2, 4, .inr (.inr (.inr (.inr (fun j => some (E.2.2.1 (5 + j)))))))
  | 7 => .inl (E.2.1 3, 24, .inr (.inr (.inr (.inr (fun j => some (E.2.2.1 (11 + j)))))))
  | 16 => .inl (E.2.1 4, 1, .inr (.inl (fun j => (st q j).toInt64)))
  | _ => .inl (E.2.1 0, 0, .inl (st q))
def zw_ent (E : zE) (st : zS) (q : Nat) : va_E := zw_entK E st q (zw_kind q)
theorem zw_ent0 (E : zE) (st : zS) {q : Nat} (h : zw_kind q = 0) : zw_ent E st q = .inr (0, [.ref (E.2.2.1 1), .ref (E.2.2.1 4), .ref (E.2.2.1 9), .ref (E.2.2.1 10), .ref (E.2.2.1 35), .int (st q 5), .int (st q 6), .int (st q 7), .int (st q 8), .int (st q 9), .int (st q 10), .int (st q 11)]) := by unfold zw_ent; rw [h]; rfl
theorem zw_ent1 (E : zE) (st : zS) {q : Nat} (h : zw_kind q = 1) : zw_ent E st q = .inr (1, [.ref (E.2.2.1 2), .ref (E.2.2.1 3), .int (st q 2), .int (st q 3), .int (st q 4)]) := by unfold zw_ent; rw [h]; rfl
theorem zw_ent2 (E : zE) (st : zS) {q : Nat} (h : zw_kind q = 2) : zw_ent E st q = .inr (2, [.int (st q 0), .int (st q 1), .int (st q 2), .int (st q 3), .int (st q 4), .int (st q 5), .int (st q 6), .int (st q 7), .int (st q 8), .int (st q 9), .int (st q 10), .int (st q 11), .int (st q 12)]) := by unfold zw_ent; rw [h]; rfl
theorem zw_ent3 (E : zE) (st : zS) {q : Nat} (h : zw_kind q = 3) : zw_ent E st q = .inr (3, [.int (st q 0), .int (st q 1), .int (st q 2), .int (st q 3), .int (st q 4), .int (st q 5)]) := by unfold zw_ent; rw [h]; rfl
theorem zw_ent4 (E : zE) (st : zS) {q : Nat} (h : zw_kind q = 4) : zw_ent E st q = .inr (4, [.ref (E.2.2.1 36), .ref (E.2.2.1 37), .ref (E.2.2.1 38), .ref (E.2.2.1 39), .int (st q 4)]) := by unfold zw_ent; rw [h]; rfl
theorem zw_ent10 (E : zE) (st : zS) {q : Nat} (h : zw_kind q = 10) : zw_ent E st q = .inr (5, [.int (st q 0), .int (st q 1), .int (st q 2), .int (st q 3), .ref (E.2.2.1 41), .ref (E.2.2.1 42), .ref (E.2.2.1 43), .ref (E.2.2.1 44), .ref (E.2.2.1 45), .ref (E.2.2.1 46), .ref (E.2.2.1 47), .ref (E.2.2.1 48), .int (st q 12), .ref (E.2.2.1 49), .ref (E.2.2.1 50), .ref (E.2.2.1 51), .ref (E.2.2.1 52), .ref (E.2.2.1 53), .ref (E.2.2.1 54), .int (st q 19), .int (st q 20), .ref (E.2.2.1 55), .int (st q 22)]) := by unfold zw_ent; rw [h]; rfl
theorem zw_ent5 (E : zE) (st : zS) {q : Nat} (h : zw_kind q = 5) : zw_ent E st q = .inl (E.2.1 0, 10, .inl (st q)) := by unfold zw_ent; rw [h]; rfl
theorem zw_ent8 (E : zE) (st : zS) {q : Nat} (h : zw_kind q = 8) : zw_ent E st q = .inl (E.2.1 0, 30, .inl (st q)) := by unfold zw_ent; rw [h]; rfl
theorem zw_ent11 (E : zE) (st : zS) {q : Nat} (h : zw_kind q = 11) : zw_ent E st q = .inl (E.2.1 0, 5, .inl (st q)) := by unfold zw_ent; rw [h]; rfl
theorem zw_ent12 (E : zE) (st : zS) {q : Nat} (h : zw_kind q = 12) : zw_ent E st q = .inl (E.2.1 1, 5, .inl (st q)) := by unfold zw_ent; rw [h]; rfl
theorem zw_ent13 (E : zE) (st : zS) {q : Nat} (h : zw_kind q = 13) : zw_ent E st q = .inl (E.2.1 0, 48, .inl (st q)) := by unfold zw_ent; rw [h]; rfl
theorem zw_ent14 (E : zE) (st : zS) {q : Nat} (h : zw_kind q = 14) : zw_ent E st q = .inl (E.2.1 0, 24, .inl (st q)) := by unfold zw_ent; rw [h]; rfl
theorem zw_ent15 (E : zE) (st : zS) {q : Nat} (h : zw_kind q = 15) : zw_ent E st q = .inl (E.2.1 0, 120, .inl (st q)) := by unfold zw_ent; rw [h]; rfl
theorem zw_ent6 (E : zE) (st : zS) {q : Nat} (h : zw_kind q = 6) : zw_ent E st q = .inl (E.2.1 2, 4, .inr (.inr (.inr (.inr (fun j => some (E.2.2.1 (5 + j))))))) := by unfold zw_ent; rw [h]; rfl
theorem zw_ent7 (E : zE) (st : zS) {q : Nat} (h : zw_kind q = 7) : zw_ent E st q = .inl (E.2.1 3, 24, .inr (.inr (.inr (.inr (fun j => some (E.2.2.1 (11 + j))))))) := by unfold zw_ent; rw [h]; rfl
theorem zw_ent16 (E : zE) (st : zS) {q : Nat} (h : zw_kind q = 16) : zw_ent E st q = .inl (E.2.1 4, 1, .inr (.inl (fun j => (st q j).toInt64))) := by unfold zw_ent; rw [h]; rfl
theorem zw_ent_row (E : zE) {st st' : zS} {q : Nat} (h : st' q = st q) : zw_ent E st' q = zw_ent E st q := by
  unfold zw_ent zw_entK
  split <;> simp only [h]
def zw_ws (E : zE) (st : zS) : va_W := (List.range E.2.2.2).map (fun q => (E.2.2.1 q, zw_ent E st q))
theorem zw_get (E : zE) (st : zS) {q : Nat} (h : q < E.2.2.2) : (zw_ws E st)[q]? = some (E.2.2.1 q, zw_ent E st q) := by
  unfold zw_ws
  rw [List.getElem?_map, List.getElem?_range h]
  rfl
theorem zw_getn (E : zE) (st : zS) {q : Nat} (h : ¬ q < E.2.2.2) : (zw_ws E st)[q]? = none := by
  unfold zw_ws
  rw [List.getElem?_eq_none]
  simp
  omega
theorem zw_set (E : zE) {st st' : zS} {q : Nat} {e : va_E} (h : q < E.2.2.2) (he : zw_ent E st' q = e) (ho : ∀ a, a ≠ q → st' a = st a) : (zw_ws E st).set q (E.2.2.1 q, e) = zw_ws E st' := by
  apply List.ext_getElem?
  intro k
  by_cases hk : k = q
  · subst hk
    rw [List.getElem?_set_self (by unfold zw_ws; simp; exact h), zw_get E st' h, he]
  · rw [List.getElem?_set_ne (Ne.symm hk)]
    by_cases hl : k < E.2.2.2
    · rw [zw_get E st hl, zw_get E st' hl, zw_ent_row E (ho k hk)]
    · rw [zw_getn E st hl, zw_getn E st' hl]
theorem zw_put (E : zE) {st : zS} {q j : Nat} {x : Int32} {e : va_E} (h : q < E.2.2.2) (he : zw_ent E (zp st q j x) q = e) : (zw_ws E st).set q (E.2.2.1 q, e) = zw_ws E (zp st q j x) :=
  zw_set E h he (fun _ ha => zp_row st x ha)
theorem zw_D {E : zE} {A : Nat → Prop} {st : zS} (st' : zS) (h : va_D A (zw_ws E st)) : va_D A (zw_ws E st') := by
  have key : ∀ (st : zS) (i : Nat) (x : Nat × va_E), (zw_ws E st)[i]? = some x → i < E.2.2.2 ∧ x.1 = E.2.2.1 i := by
    intro st i x hx
    by_cases hl : i < E.2.2.2
    · rw [zw_get E st hl] at hx
      cases hx
      exact ⟨hl, rfl⟩
    · rw [zw_getn E st hl] at hx
      cases hx
  refine ⟨fun i j x y hx hy hxy => ?_, fun k x hx => ?_⟩
  · obtain ⟨h1, h2⟩ := key st' i x hx
    obtain ⟨h3, h4⟩ := key st' j y hy
    exact h.1 i j _ _ (zw_get E st h1) (zw_get E st h3) (by show E.2.2.1 i = E.2.2.1 j; rw [← h2, ← h4]; exact hxy)
  · obtain ⟨h1, h2⟩ := key st' k x hx
    rw [h2]
    exact h.2 k _ (zw_get E st h1)
theorem zw_put0 (E : zE) (st : zS) {q j : Nat} (x : Int32) (h : zw_kind q = 0) (hj : j = 5 ∨ j = 6 ∨ j = 7 ∨ j = 8 ∨ j = 9 ∨ j = 10 ∨ j = 11) : zw_ent E (zp st q j x) q = .inr (0, ([.ref (E.2.2.1 1), .ref (E.2.2.1 4), .ref (E.2.2.1 9), .ref (E.2.2.1 10), .ref (E.2.2.1 35), .int (st q 5), .int (st q 6), .int (st q 7), .int (st q 8), .int (st q 9), .int (st q 10), .int (st q 11)] : List Value).set j (.int x)) := by
  rw [zw_ent0 E _ h]
  rcases hj with rfl | rfl | rfl | rfl | rfl | rfl | rfl <;> simp [zp]
theorem zw_put1 (E : zE) (st : zS) {q j : Nat} (x : Int32) (h : zw_kind q = 1) (hj : j = 2 ∨ j = 3 ∨ j = 4) : zw_ent E (zp st q j x) q = .inr (1, ([.ref (E.2.2.1 2), .ref (E.2.2.1 3), .int (st q 2), .int (st q 3), .int (st q 4)] : List Value).set j (.int x)) := by
  rw [zw_ent1 E _ h]
  rcases hj with rfl | rfl | rfl <;> simp [zp]
theorem zw_put2 (E : zE) (st : zS) {q j : Nat} (x : Int32) (h : zw_kind q = 2) (hj : j = 0 ∨ j = 1 ∨ j = 2 ∨ j = 3 ∨ j = 4 ∨ j = 5 ∨ j = 6 ∨ j = 7 ∨ j = 8 ∨ j = 9 ∨ j = 10 ∨ j = 11 ∨ j = 12) : zw_ent E (zp st q j x) q = .inr (2, ([.int (st q 0), .int (st q 1), .int (st q 2), .int (st q 3), .int (st q 4), .int (st q 5), .int (st q 6), .int (st q 7), .int (st q 8), .int (st q 9), .int (st q 10), .int (st q 11), .int (st q 12)] : List Value).set j (.int x)) := by
  rw [zw_ent2 E _ h]
  rcases hj with rfl | rfl | rfl | rfl | rfl | rfl | rfl | rfl | rfl | rfl | rfl | rfl | rfl <;> simp [zp]
theorem zw_put3 (E : zE) (st : zS) {q j : Nat} (x : Int32) (h : zw_kind q = 3) (hj : j = 0 ∨ j = 1 ∨ j = 2 ∨ j = 3 ∨ j = 4 ∨ j = 5) : zw_ent E (zp st q j x) q = .inr (3, ([.int (st q 0), .int (st q 1), .int (st q 2), .int (st q 3), .int (st q 4), .int (st q 5)] : List Value).set j (.int x)) := by
  rw [zw_ent3 E _ h]
  rcases hj with rfl | rfl | rfl | rfl | rfl | rfl <;> simp [zp]
theorem zw_put4 (E : zE) (st : zS) {q j : Nat} (x : Int32) (h : zw_kind q = 4) (hj : j = 4) : zw_ent E (zp st q j x) q = .inr (4, ([.ref (E.2.2.1 36), .ref (E.2.2.1 37), .ref (E.2.2.1 38), .ref (E.2.2.1 39), .int (st q 4)] : List Value).set j (.int x)) := by
  rw [zw_ent4 E _ h]
  subst hj; simp [zp]
theorem zw_put10 (E : zE) (st : zS) {q j : Nat} (x : Int32) (h : zw_kind q = 10) (hj : j = 0 ∨ j = 1 ∨ j = 2 ∨ j = 3 ∨ j = 12 ∨ j = 19 ∨ j = 20 ∨ j = 22) : zw_ent E (zp st q j x) q = .inr (5, ([.int (st q 0), .int (st q 1), .int (st q 2), .int (st q 3), .ref (E.2.2.1 41), .ref (E.2.2.1 42), .ref (E.2.2.1 43), .ref (E.2.2.1 44), .ref (E.2.2.1 45), .ref (E.2.2.1 46), .ref (E.2.2.1 47), .ref (E.2.2.1 48), .int (st q 12), .ref (E.2.2.1 49), .ref (E.2.2.1 50), .ref (E.2.2.1 51), .ref (E.2.2.1 52), .ref (E.2.2.1 53), .ref (E.2.2.1 54), .int (st q 19), .int (st q 20), .ref (E.2.2.1 55), .int (st q 22)] : List Value).set j (.int x)) := by
  rw [zw_ent10 E _ h]
  rcases hj with rfl | rfl | rfl | rfl | rfl | rfl | rfl | rfl <;> simp [zp]
def zw_ty (E : zE) : List (ClassId × FieldType) := [(E.2.1 0, .int), (E.2.1 1, .boolean), (E.2.1 2, .object "LiftGroup$Car"), (E.2.1 3, .object "LiftGroup$Rider"), (E.2.1 4, .long)]
def zw_J (E : zE) (A : Nat → Prop) (H0 : Heap) (st : zS) (H : Heap) (locs : List Loc) : Prop := va_P E.1 zwCl (zw_ws E st) H ∧ va_D A (zw_ws E st) ∧ va_S A H0 H locs
def zw_L (ad : Nat → Nat) (ls : Array Slot) (nL : Nat) (L : List (Option Value)) : Prop := ls.size = nL ∧ lv_wf ls ∧ ∀ (i : Nat) (v : Value), L[i]? = some (some v) → ls[i]? = some (Slot.val (zw_v ad v)) ∧ v.category = 1
theorem zw_cat (ad : Nat → Nat) (v : Value) : (zw_v ad v).category = v.category := by cases v <;> rfl
def zw_lv (ad : Nat → Nat) (L : List (Option Value)) : List (Nat × Value) := (List.range L.length).filterMap (fun i => match L[i]? with
  | some (some v) => some (i, zw_v ad v)
  | _ => none)
theorem zw_lv_in {ad : Nat → Nat} {L : List (Option Value)} {i : Nat} {v : Value} (h : L[i]? = some (some v)) : (i, zw_v ad v) ∈ zw_lv ad L :=
  List.mem_filterMap.mpr ⟨i, List.mem_range.mpr (List.getElem?_eq_some_iff.mp h).1, by rw [h]⟩
theorem zw_lv_of {ad : Nat → Nat} {L : List (Option Value)} {x : Nat × Value} (h : x ∈ zw_lv ad L) : ∃ v, L[x.1]? = some (some v) ∧ x.2 = zw_v ad v := by
  obtain ⟨i, -, hi⟩ := List.mem_filterMap.mp h
  cases hL : L[i]? with
  | none => rw [hL] at hi; cases hi
  | some o =>
    cases o with
    | none => rw [hL] at hi; cases hi
    | some v =>
      rw [hL] at hi
      cases hi
      exact ⟨v, hL, rfl⟩
theorem zw_L.has {ad : Nat → Nat} {ls : Array Slot} {nL : Nat} {L : List (Option Value)} (h : zw_L ad ls nL L) : lv_has ls nL (zw_lv ad L) := ⟨h.1, h.2.1, fun x hx => by
  obtain ⟨v, h1, h2⟩ := zw_lv_of hx
  rw [h2]
  exact (h.2.2 _ _ h1).1⟩
theorem zw_L.put {ad : Nat → Nat} {ls ls' : Array Slot} {nL i : Nat} {L : List (Option Value)} {w : Value} (h : zw_L ad ls nL L) (hw : w.category = 1) (h' : lv_has ls' nL ((i, zw_v ad w) :: (zw_lv ad L).filter (fun q => !(q.1 == i) && !(q.1 + 1 == i && q.2.category == 2)))) : zw_L ad ls' nL (L.set i (some w)) := by
  refine ⟨h'.1, h'.2.1, fun j v hj => ?_⟩
  by_cases hji : j = i
  · subst hji
    by_cases hl : j < L.length
    · rw [List.getElem?_set_self hl] at hj
      cases hj
      exact ⟨h'.2.2 _ List.mem_cons_self, hw⟩
    · rw [List.getElem?_eq_none (by simp; omega)] at hj
      cases hj
  · rw [List.getElem?_set_ne (Ne.symm hji)] at hj
    refine ⟨h'.2.2 (j, zw_v ad v) (List.mem_cons_of_mem _ (List.mem_filter.mpr ⟨zw_lv_in hj, ?_⟩)), (h.2.2 j v hj).2⟩
    have hc := (h.2.2 j v hj).2
    simp [hji, zw_cat, hc]
def zw_le (L' L : List (Option Value)) : Prop := ∀ (i : Nat) (v : Value), L'[i]? = some (some v) → L[i]? = some (some v)
theorem zw_le0 : zw_le [] [] := fun i v h => h
theorem zw_len {L' L : List (Option Value)} {x : Option Value} (h : zw_le L' L) : zw_le (none :: L') (x :: L) := fun i v hi => by
  cases i with
  | zero => cases hi
  | succ i => exact h i v hi
theorem zw_les {L' L : List (Option Value)} {x : Option Value} (h : zw_le L' L) : zw_le (x :: L') (x :: L) := fun i v hi => by
  cases i with
  | zero => exact hi
  | succ i => exact h i v hi
theorem zw_L.le {ad : Nat → Nat} {ls : Array Slot} {nL : Nat} {L L' : List (Option Value)} (h : zw_L ad ls nL L) (hle : zw_le L' L) : zw_L ad ls nL L' := ⟨h.1, h.2.1, fun i v hi => h.2.2 i v (hle i v hi)⟩
def zw_F (p : Program) (m : MethodId) (c : Code) (cc : ByteArray) (nL : Nat) (s : State) (args : Array Value) (own : String) (E : zE) (kM : Nat) : Prop := CallFix p m c cc nL s args zwAll own ∧ va_K E.1 zwCl (zw_ty E) s ∧ zw_n E kM
section ZG
variable {p : Program} {l : Launch} {e : Env} {R : Room} {s : State} {m : MethodId} {args : Array Value} {below : List Frame} {meth : Method} {c : Code} {Q : State → Prop} {cc : ByteArray} {own : String} {E : zE} {A : Nat → Prop} {nL kM k pc : Nat} {L : List (Option Value)} {stk : List Value} {st : zS}
def zw_G (p : Program) (l : Launch) (e : Env) (R : Room) (s : State) (m : MethodId) (args : Array Value) (below : List Frame) (meth : Method) (c : Code) (Q : State → Prop) (E : zE) (A : Nat → Prop) (nL k pc : Nat) (L : List (Option Value)) (stk : List Value) (st : zS) : Prop :=
  ∀ (H : Heap) (locs : List Loc) (ls : Array Slot), zw_J E A s.heap st H locs → zw_L E.2.2.1 ls nL L → W p l e R s m args below meth c H locs k (6 * k) Q (F0 m pc ls (stk.map (zw_v E.2.2.1)))
theorem zg_le {L' : List (Option Value)} (h : zw_le L' L) (kk : zw_G p l e R s m args below meth c Q E A nL k pc L' stk st) : zw_G p l e R s m args below meth c Q E A nL k pc L stk st := fun H locs ls hJ hL => kk H locs ls hJ (hL.le h)
theorem zg_st {st' : zS} (h : st = st') (kk : zw_G p l e R s m args below meth c Q E A nL k pc L stk st') : zw_G p l e R s m args below meth c Q E A nL k pc L stk st := h ▸ kk
theorem zg_wide {k' : Nat} (h : k ≤ k') (kk : zw_G p l e R s m args below meth c Q E A nL k' pc L stk st) : zw_G p l e R s m args below meth c Q E A nL k pc L stk st := fun H locs ls hJ hL => W.widen h (by omega) (kk H locs ls hJ hL)
theorem zg_iconst (F : zw_F p m c cc nL s args own E kM) (n : Int) (v : Int32) (hv : Int32.ofInt n = v) (hd : decode cc pc = .ok (.iconst n, 1)) (kk : zw_G p l e R s m args below meth c Q E A nL k (pc + 1) L (.int v :: stk) st) : zw_G p l e R s m args below meth c Q E A nL k pc L stk st := fun H locs ls hJ hL => lv_iconst F.1.1 F.1.2.1 hd hv (kk H locs ls hJ hL)
theorem zg_bipush (F : zw_F p m c cc nL s args own E kM) (n : Int) (v : Int32) (hv : (Int8.ofInt n).toInt32 = v) (hd : decode cc pc = .ok (.bipush n, 2)) (kk : zw_G p l e R s m args below meth c Q E A nL k (pc + 2) L (.int v :: stk) st) : zw_G p l e R s m args below meth c Q E A nL k pc L stk st := fun H locs ls hJ hL => lv_bipush F.1.1 F.1.2.1 hd hv (kk H locs ls hJ hL)
theorem zg_sipush (F : zw_F p m c cc nL s args own E kM) (n : Int) (v : Int32) (hv : (Int16.ofInt n).toInt32 = v) (hd : decode cc pc = .ok (.sipush n, 3)) (kk : zw_G p l e R s m args below meth c Q E A nL k (pc + 3) L (.int v :: stk) st) : zw_G p l e R s m args below meth c Q E A nL k pc L stk st := fun H locs ls hJ hL => lv_sipush F.1.1 F.1.2.1 hd hv (kk H locs ls hJ hL)
theorem zg_lconst (F : zw_F p m c cc nL s args own E kM) (n : Fin 2) (v : Int64) (hv : Int64.ofNat (n : Nat) = v) (hd : decode cc pc = .ok (.lconst n, 1)) (kk : zw_G p l e R s m args below meth c Q E A nL k (pc + 1) L (.long v :: stk) st) : zw_G p l e R s m args below meth c Q E A nL k pc L stk st := fun H locs ls hJ hL => lv_lconst F.1.1 F.1.2.1 hd hv (kk H locs ls hJ hL)
theorem zg_iload_n (F : zw_F p m c cc nL s args own E kM) {n : Fin 4} {i : Nat} {x : Int32} (hd : decode cc pc = .ok (.iload_n n, 1)) (hi : (n : Nat) = i) (hl : L[i]? = some (some (.int x))) (kk : zw_G p l e R s m args below meth c Q E A nL k (pc + 1) L (.int x :: stk) st) : zw_G p l e R s m args below meth c Q E A nL k pc L stk st := fun H locs ls hJ hL => lv_iload_n F.1.1 F.1.2.1 hd hi (hL.2.2 _ _ hl).1 (kk H locs ls hJ hL)
theorem zg_iload (F : zw_F p m c cc nL s args own E kM) {i : Nat} {x : Int32} (hd : decode cc pc = .ok (.iload i, 2)) (hl : L[i]? = some (some (.int x))) (kk : zw_G p l e R s m args below meth c Q E A nL k (pc + 2) L (.int x :: stk) st) : zw_G p l e R s m args below meth c Q E A nL k pc L stk st := fun H locs ls hJ hL => lv_iload F.1.1 F.1.2.1 hd (hL.2.2 _ _ hl).1 (kk H locs ls hJ hL)
theorem zg_istore_n (F : zw_F p m c cc nL s args own E kM) {n : Fin 4} {i : Nat} {x : Int32} (L' : List (Option Value)) (hd : decode cc pc = .ok (.istore_n n, 1)) (hi : (n : Nat) = i) (hn : i < nL) (hl : L.set i (some (.int x)) = L') (kk : zw_G p l e R s m args below meth c Q E A nL k (pc + 1) L' stk st) : zw_G p l e R s m args below meth c Q E A nL k pc L (.int x :: stk) st := fun H locs ls hJ hL => lv_istore_n F.1.1 F.1.2.1 hd hi hL.has hn rfl (fun ls' h' => kk H locs ls' hJ (hl ▸ hL.put (w := .int x) rfl h'))
theorem zg_istore (F : zw_F p m c cc nL s args own E kM) {i : Nat} {x : Int32} (L' : List (Option Value)) (hd : decode cc pc = .ok (.istore i, 2)) (hn : i < nL) (hl : L.set i (some (.int x)) = L') (kk : zw_G p l e R s m args below meth c Q E A nL k (pc + 2) L' stk st) : zw_G p l e R s m args below meth c Q E A nL k pc L (.int x :: stk) st := fun H locs ls hJ hL => lv_istore F.1.1 F.1.2.1 hd hL.has hn rfl (fun ls' h' => kk H locs ls' hJ (hl ▸ hL.put (w := .int x) rfl h'))
theorem zg_aload_n (F : zw_F p m c cc nL s args own E kM) {n : Fin 4} {i : Nat} {x : Nat} (hd : decode cc pc = .ok (.aload_n n, 1)) (hi : (n : Nat) = i) (hl : L[i]? = some (some (.ref x))) (kk : zw_G p l e R s m args below meth c Q E A nL k (pc + 1) L (.ref x :: stk) st) : zw_G p l e R s m args below meth c Q E A nL k pc L stk st := fun H locs ls hJ hL => lv_aload_n F.1.1 F.1.2.1 hd hi (hL.2.2 _ _ hl).1 (kk H locs ls hJ hL)
theorem zg_aload (F : zw_F p m c cc nL s args own E kM) {i : Nat} {x : Nat} (hd : decode cc pc = .ok (.aload i, 2)) (hl : L[i]? = some (some (.ref x))) (kk : zw_G p l e R s m args below meth c Q E A nL k (pc + 2) L (.ref x :: stk) st) : zw_G p l e R s m args below meth c Q E A nL k pc L stk st := fun H locs ls hJ hL => lv_aload F.1.1 F.1.2.1 hd (hL.2.2 _ _ hl).1 (kk H locs ls hJ hL)
theorem zg_astore_n (F : zw_F p m c cc nL s args own E kM) {n : Fin 4} {i : Nat} {x : Nat} (L' : List (Option Value)) (hd : decode cc pc = .ok (.astore_n n, 1)) (hi : (n : Nat) = i) (hn : i < nL) (hl : L.set i (some (.ref x)) = L') (kk : zw_G p l e R s m args below meth c Q E A nL k (pc + 1) L' stk st) : zw_G p l e R s m args below meth c Q E A nL k pc L (.ref x :: stk) st := fun H locs ls hJ hL => lv_astore_n F.1.1 F.1.2.1 hd hi hL.has hn rfl (fun ls' h' => kk H locs ls' hJ (hl ▸ hL.put (w := .ref x) rfl h'))
theorem zg_astore (F : zw_F p m c cc nL s args own E kM) {i : Nat} {x : Nat} (L' : List (Option Value)) (hd : decode cc pc = .ok (.astore i, 2)) (hn : i < nL) (hl : L.set i (some (.ref x)) = L') (kk : zw_G p l e R s m args below meth c Q E A nL k (pc + 2) L' stk st) : zw_G p l e R s m args below meth c Q E A nL k pc L (.ref x :: stk) st := fun H locs ls hJ hL => lv_astore F.1.1 F.1.2.1 hd hL.has hn rfl (fun ls' h' => kk H locs ls' hJ (hl ▸ hL.put (w := .ref x) rfl h'))
theorem zg_iinc (F : zw_F p m c cc nL s args own E kM) {i : Nat} {n : Int} {x : Int32} (v : Int32) (L' : List (Option Value)) (hd : decode cc pc = .ok (.iinc i n, 3)) (hx : L[i]? = some (some (.int x))) (hv : x + Int32.ofInt n = v) (hn : i < nL) (hl : L.set i (some (.int v)) = L') (kk : zw_G p l e R s m args below meth c Q E A nL k (pc + 3) L' stk st) : zw_G p l e R s m args below meth c Q E A nL k pc L stk st := fun H locs ls hJ hL => by
  obtain ⟨j, hj⟩ := List.getElem?_of_mem (zw_lv_in (ad := E.2.2.1) hx)
  exact lv_iinc F.1.1 F.1.2.1 hd hL.has hj hv hn rfl (fun ls' h' => kk H locs ls' hJ (hl ▸ hL.put (w := .int v) rfl h'))
theorem zg_iadd (F : zw_F p m c cc nL s args own E kM) {x y : Int32} (hd : decode cc pc = .ok (.iadd, 1)) (kk : zw_G p l e R s m args below meth c Q E A nL k (pc + 1) L (.int (x + y) :: stk) st) : zw_G p l e R s m args below meth c Q E A nL k pc L (.int y :: .int x :: stk) st := fun H locs ls hJ hL => lv_iadd F.1.1 F.1.2.1 hd (kk H locs ls hJ hL)
theorem zg_isub (F : zw_F p m c cc nL s args own E kM) {x y : Int32} (hd : decode cc pc = .ok (.isub, 1)) (kk : zw_G p l e R s m args below meth c Q E A nL k (pc + 1) L (.int (x - y) :: stk) st) : zw_G p l e R s m args below meth c Q E A nL k pc L (.int y :: .int x :: stk) st := fun H locs ls hJ hL => lv_isub F.1.1 F.1.2.1 hd (kk H locs ls hJ hL)
theorem zg_imul (F : zw_F p m c cc nL s args own E kM) {x y : Int32} (hd : decode cc pc = .ok (.imul, 1)) (kk : zw_G p l e R s m args below meth c Q E A nL k (pc + 1) L (.int (x * y) :: stk) st) : zw_G p l e R s m args below meth c Q E A nL k pc L (.int y :: .int x :: stk) st := fun H locs ls hJ hL => lv_imul F.1.1 F.1.2.1 hd (kk H locs ls hJ hL)
theorem zg_iand (F : zw_F p m c cc nL s args own E kM) {x y : Int32} (hd : decode cc pc = .ok (.iand, 1)) (kk : zw_G p l e R s m args below meth c Q E A nL k (pc + 1) L (.int (x &&& y) :: stk) st) : zw_G p l e R s m args below meth c Q E A nL k pc L (.int y :: .int x :: stk) st := fun H locs ls hJ hL => lv_iand F.1.1 F.1.2.1 hd (kk H locs ls hJ hL)
theorem zg_ior (F : zw_F p m c cc nL s args own E kM) {x y : Int32} (hd : decode cc pc = .ok (.ior, 1)) (kk : zw_G p l e R s m args below meth c Q E A nL k (pc + 1) L (.int (x ||| y) :: stk) st) : zw_G p l e R s m args below meth c Q E A nL k pc L (.int y :: .int x :: stk) st := fun H locs ls hJ hL => lv_ior F.1.1 F.1.2.1 hd (kk H locs ls hJ hL)
theorem zg_ixor (F : zw_F p m c cc nL s args own E kM) {x y : Int32} (hd : decode cc pc = .ok (.ixor, 1)) (kk : zw_G p l e R s m args below meth c Q E A nL k (pc + 1) L (.int (x ^^^ y) :: stk) st) : zw_G p l e R s m args below meth c Q E A nL k pc L (.int y :: .int x :: stk) st := fun H locs ls hJ hL => lv_ixor F.1.1 F.1.2.1 hd (kk H locs ls hJ hL)
theorem zg_ishl (F : zw_F p m c cc nL s args own E kM) {x y : Int32} (hd : decode cc pc = .ok (.ishl, 1)) (kk : zw_G p l e R s m args below meth c Q E A nL k (pc + 1) L (.int (x <<< (y &&& 31)) :: stk) st) : zw_G p l e R s m args below meth c Q E A nL k pc L (.int y :: .int x :: stk) st := fun H locs ls hJ hL => lv_ishl F.1.1 F.1.2.1 hd (kk H locs ls hJ hL)
theorem zg_ishr (F : zw_F p m c cc nL s args own E kM) {x y : Int32} (hd : decode cc pc = .ok (.ishr, 1)) (kk : zw_G p l e R s m args below meth c Q E A nL k (pc + 1) L (.int (x >>> (y &&& 31)) :: stk) st) : zw_G p l e R s m args below meth c Q E A nL k pc L (.int y :: .int x :: stk) st := fun H locs ls hJ hL => lv_ishr F.1.1 F.1.2.1 hd (kk H locs ls hJ hL)
theorem zg_iushr (F : zw_F p m c cc nL s args own E kM) {x y : Int32} (hd : decode cc pc = .ok (.iushr, 1)) (kk : zw_G p l e R s m args below meth c Q E A nL k (pc + 1) L (.int ((x.toUInt32 >>> (y.toUInt32 &&& Int32.toUInt32 31)).toInt32) :: stk) st) : zw_G p l e R s m args below meth c Q E A nL k pc L (.int y :: .int x :: stk) st := fun H locs ls hJ hL => lv_iushr F.1.1 F.1.2.1 hd rfl (kk H locs ls hJ hL)
theorem zg_idiv (F : zw_F p m c cc nL s args own E kM) {x y : Int32} (hd : decode cc pc = .ok (.idiv, 1)) (hne : ¬ y = 0) (kk : zw_G p l e R s m args below meth c Q E A nL k (pc + 1) L (.int (x / y) :: stk) st) : zw_G p l e R s m args below meth c Q E A nL k pc L (.int y :: .int x :: stk) st := fun H locs ls hJ hL => lv_idiv F.1.1 F.1.2.1 hd hne (kk H locs ls hJ hL)
theorem zg_irem (F : zw_F p m c cc nL s args own E kM) {x y : Int32} (hd : decode cc pc = .ok (.irem, 1)) (hne : ¬ y = 0) (kk : zw_G p l e R s m args below meth c Q E A nL k (pc + 1) L (.int (x - x / y * y) :: stk) st) : zw_G p l e R s m args below meth c Q E A nL k pc L (.int y :: .int x :: stk) st := fun H locs ls hJ hL => lv_irem F.1.1 F.1.2.1 hd hne (kk H locs ls hJ hL)
theorem zg_ineg (F : zw_F p m c cc nL s args own E kM) {x : Int32} (hd : decode cc pc = .ok (.ineg, 1)) (kk : zw_G p l e R s m args below meth c Q E A nL k (pc + 1) L (.int (-x) :: stk) st) : zw_G p l e R s m args below meth c Q E A nL k pc L (.int x :: stk) st := fun H locs ls hJ hL => lv_ineg F.1.1 F.1.2.1 hd (kk H locs ls hJ hL)
theorem zg_i2l (F : zw_F p m c cc nL s args own E kM) {x : Int32} (hd : decode cc pc = .ok (.i2l, 1)) (kk : zw_G p l e R s m args below meth c Q E A nL k (pc + 1) L (.long x.toInt64 :: stk) st) : zw_G p l e R s m args below meth c Q E A nL k pc L (.int x :: stk) st := fun H locs ls hJ hL => lv_i2l F.1.1 F.1.2.1 hd rfl (kk H locs ls hJ hL)
theorem zg_dup (F : zw_F p m c cc nL s args own E kM) {v : Value} (hd : decode cc pc = .ok (.dup, 1)) (hv : v.category = 1) (kk : zw_G p l e R s m args below meth c Q E A nL k (pc + 1) L (v :: v :: stk) st) : zw_G p l e R s m args below meth c Q E A nL k pc L (v :: stk) st := fun H locs ls hJ hL => lv_dup F.1.1 F.1.2.1 hd (by rw [zw_cat]; exact hv) (kk H locs ls hJ hL)
theorem zg_pop (F : zw_F p m c cc nL s args own E kM) {v : Value} (hd : decode cc pc = .ok (.pop, 1)) (hv : v.category = 1) (kk : zw_G p l e R s m args below meth c Q E A nL k (pc + 1) L stk st) : zw_G p l e R s m args below meth c Q E A nL k pc L (v :: stk) st := fun H locs ls hJ hL => lv_pop F.1.1 F.1.2.1 hd (by rw [zw_cat]; exact hv) (kk H locs ls hJ hL)
theorem zg_dup_x1 (F : zw_F p m c cc nL s args own E kM) {v w : Value} (hd : decode cc pc = .ok (.dup_x1, 1)) (hv : v.category = 1) (hw : w.category = 1) (kk : zw_G p l e R s m args below meth c Q E A nL k (pc + 1) L (v :: w :: v :: stk) st) : zw_G p l e R s m args below meth c Q E A nL k pc L (v :: w :: stk) st := fun H locs ls hJ hL => lv_dup_x1 F.1.1 F.1.2.1 hd (by rw [zw_cat]; exact hv) (by rw [zw_cat]; exact hw) (kk H locs ls hJ hL)
theorem zg_dup2 (F : zw_F p m c cc nL s args own E kM) {v w : Value} (hd : decode cc pc = .ok (.dup2, 1)) (hv : v.category = 1) (hw : w.category = 1) (kk : zw_G p l e R s m args below meth c Q E A nL k (pc + 1) L (v :: w :: v :: w :: stk) st) : zw_G p l e R s m args below meth c Q E A nL k pc L (v :: w :: stk) st := fun H locs ls hJ hL => lv_dup2_11 F.1.1 F.1.2.1 hd (by rw [zw_cat]; exact hv) (by rw [zw_cat]; exact hw) (kk H locs ls hJ hL)
theorem zg_if_eq (F : zw_F p m c cc nL s args own E kM) {x : Int32} {off : Int} (tgt : Nat) (hd : decode cc pc = .ok (.ifCond .eq off, 3)) (ht : (pc : Int) + off = (tgt : Int)) (kt : x = 0 → zw_G p l e R s m args below meth c Q E A nL k tgt L stk st) (kf : ¬ (x = 0) → zw_G p l e R s m args below meth c Q E A nL k (pc + 3) L stk st) : zw_G p l e R s m args below meth c Q E A nL k pc L (.int x :: stk) st := fun H locs ls hJ hL => lv_if_eq F.1.1 F.1.2.1 hd ht (fun h => kt h H locs ls hJ hL) (fun h => kf h H locs ls hJ hL)
theorem zg_icmp_eq (F : zw_F p m c cc nL s args own E kM) {x y : Int32} {off : Int} (tgt : Nat) (hd : decode cc pc = .ok (.if_icmp .eq off, 3)) (ht : (pc : Int) + off = (tgt : Int)) (kt : x = y → zw_G p l e R s m args below meth c Q E A nL k tgt L stk st) (kf : ¬ (x = y) → zw_G p l e R s m args below meth c Q E A nL k (pc + 3) L stk st) : zw_G p l e R s m args below meth c Q E A nL k pc L (.int y :: .int x :: stk) st := fun H locs ls hJ hL => lv_icmp_eq F.1.1 F.1.2.1 hd ht (fun h => kt h H locs ls hJ hL) (fun h => kf h H locs ls hJ hL)
theorem zg_if_ne (F : zw_F p m c cc nL s args own E kM) {x : Int32} {off : Int} (tgt : Nat) (hd : decode cc pc = .ok (.ifCond .ne off, 3)) (ht : (pc : Int) + off = (tgt : Int)) (kt : ¬ (x = 0) → zw_G p l e R s m args below meth c Q E A nL k tgt L stk st) (kf : x = 0 → zw_G p l e R s m args below meth c Q E A nL k (pc + 3) L stk st) : zw_G p l e R s m args below meth c Q E A nL k pc L (.int x :: stk) st := fun H locs ls hJ hL => lv_if_ne F.1.1 F.1.2.1 hd ht (fun h => kt h H locs ls hJ hL) (fun h => kf h H locs ls hJ hL)
theorem zg_icmp_ne (F : zw_F p m c cc nL s args own E kM) {x y : Int32} {off : Int} (tgt : Nat) (hd : decode cc pc = .ok (.if_icmp .ne off, 3)) (ht : (pc : Int) + off = (tgt : Int)) (kt : ¬ (x = y) → zw_G p l e R s m args below meth c Q E A nL k tgt L stk st) (kf : x = y → zw_G p l e R s m args below meth c Q E A nL k (pc + 3) L stk st) : zw_G p l e R s m args below meth c Q E A nL k pc L (.int y :: .int x :: stk) st := fun H locs ls hJ hL => lv_icmp_ne F.1.1 F.1.2.1 hd ht (fun h => kt h H locs ls hJ hL) (fun h => kf h H locs ls hJ hL)
theorem zg_if_lt (F : zw_F p m c cc nL s args own E kM) {x : Int32} {off : Int} (tgt : Nat) (hd : decode cc pc = .ok (.ifCond .lt off, 3)) (ht : (pc : Int) + off = (tgt : Int)) (kt : x < 0 → zw_G p l e R s m args below meth c Q E A nL k tgt L stk st) (kf : ¬ (x < 0) → zw_G p l e R s m args below meth c Q E A nL k (pc + 3) L stk st) : zw_G p l e R s m args below meth c Q E A nL k pc L (.int x :: stk) st := fun H locs ls hJ hL => lv_if_lt F.1.1 F.1.2.1 hd ht (fun h => kt h H locs ls hJ hL) (fun h => kf h H locs ls hJ hL)
theorem zg_icmp_lt (F : zw_F p m c cc nL s args own E kM) {x y : Int32} {off : Int} (tgt : Nat) (hd : decode cc pc = .ok (.if_icmp .lt off, 3)) (ht : (pc : Int) + off = (tgt : Int)) (kt : x < y → zw_G p l e R s m args below meth c Q E A nL k tgt L stk st) (kf : ¬ (x < y) → zw_G p l e R s m args below meth c Q E A nL k (pc + 3) L stk st) : zw_G p l e R s m args below meth c Q E A nL k pc L (.int y :: .int x :: stk) st := fun H locs ls hJ hL => lv_icmp_lt F.1.1 F.1.2.1 hd ht (fun h => kt h H locs ls hJ hL) (fun h => kf h H locs ls hJ hL)
theorem zg_if_ge (F : zw_F p m c cc nL s args own E kM) {x : Int32} {off : Int} (tgt : Nat) (hd : decode cc pc = .ok (.ifCond .ge off, 3)) (ht : (pc : Int) + off = (tgt : Int)) (kt : 0 ≤ x → zw_G p l e R s m args below meth c Q E A nL k tgt L stk st) (kf : ¬ (0 ≤ x) → zw_G p l e R s m args below meth c Q E A nL k (pc + 3) L stk st) : zw_G p l e R s m args below meth c Q E A nL k pc L (.int x :: stk) st := fun H locs ls hJ hL => lv_if_ge F.1.1 F.1.2.1 hd ht (fun h => kt h H locs ls hJ hL) (fun h => kf h H locs ls hJ hL)
theorem zg_icmp_ge (F : zw_F p m c cc nL s args own E kM) {x y : Int32} {off : Int} (tgt : Nat) (hd : decode cc pc = .ok (.if_icmp .ge off, 3)) (ht : (pc : Int) + off = (tgt : Int)) (kt : y ≤ x → zw_G p l e R s m args below meth c Q E A nL k tgt L stk st) (kf : ¬ (y ≤ x) → zw_G p l e R s m args below meth c Q E A nL k (pc + 3) L stk st) : zw_G p l e R s m args below meth c Q E A nL k pc L (.int y :: .int x :: stk) st := fun H locs ls hJ hL => lv_icmp_ge F.1.1 F.1.2.1 hd ht (fun h => kt h H locs ls hJ hL) (fun h => kf h H locs ls hJ hL)
theorem zg_if_gt (F : zw_F p m c cc nL s args own E kM) {x : Int32} {off : Int} (tgt : Nat) (hd : decode cc pc = .ok (.ifCond .gt off, 3)) (ht : (pc : Int) + off = (tgt : Int)) (kt : 0 < x → zw_G p l e R s m args below meth c Q E A nL k tgt L stk st) (kf : ¬ (0 < x) → zw_G p l e R s m args below meth c Q E A nL k (pc + 3) L stk st) : zw_G p l e R s m args below meth c Q E A nL k pc L (.int x :: stk) st := fun H locs ls hJ hL => lv_if_gt F.1.1 F.1.2.1 hd ht (fun h => kt h H locs ls hJ hL) (fun h => kf h H locs ls hJ hL)
theorem zg_icmp_gt (F : zw_F p m c cc nL s args own E kM) {x y : Int32} {off : Int} (tgt : Nat) (hd : decode cc pc = .ok (.if_icmp .gt off, 3)) (ht : (pc : Int) + off = (tgt : Int)) (kt : y < x → zw_G p l e R s m args below meth c Q E A nL k tgt L stk st) (kf : ¬ (y < x) → zw_G p l e R s m args below meth c Q E A nL k (pc + 3) L stk st) : zw_G p l e R s m args below meth c Q E A nL k pc L (.int y :: .int x :: stk) st := fun H locs ls hJ hL => lv_icmp_gt F.1.1 F.1.2.1 hd ht (fun h => kt h H locs ls hJ hL) (fun h => kf h H locs ls hJ hL)
theorem zg_if_le (F : zw_F p m c cc nL s args own E kM) {x : Int32} {off : Int} (tgt : Nat) (hd : decode cc pc = .ok (.ifCond .le off, 3)) (ht : (pc : Int) + off = (tgt : Int)) (kt : x ≤ 0 → zw_G p l e R s m args below meth c Q E A nL k tgt L stk st) (kf : ¬ (x ≤ 0) → zw_G p l e R s m args below meth c Q E A nL k (pc + 3) L stk st) : zw_G p l e R s m args below meth c Q E A nL k pc L (.int x :: stk) st := fun H locs ls hJ hL => lv_if_le F.1.1 F.1.2.1 hd ht (fun h => kt h H locs ls hJ hL) (fun h => kf h H locs ls hJ hL)
theorem zg_icmp_le (F : zw_F p m c cc nL s args own E kM) {x y : Int32} {off : Int} (tgt : Nat) (hd : decode cc pc = .ok (.if_icmp .le off, 3)) (ht : (pc : Int) + off = (tgt : Int)) (kt : x ≤ y → zw_G p l e R s m args below meth c Q E A nL k tgt L stk st) (kf : ¬ (x ≤ y) → zw_G p l e R s m args below meth c Q E A nL k (pc + 3) L stk st) : zw_G p l e R s m args below meth c Q E A nL k pc L (.int y :: .int x :: stk) st := fun H locs ls hJ hL => lv_icmp_le F.1.1 F.1.2.1 hd ht (fun h => kt h H locs ls hJ hL) (fun h => kf h H locs ls hJ hL)
theorem zg_goto (F : zw_F p m c cc nL s args own E kM) {off : Int} (tgt : Nat) (hd : decode cc pc = .ok (.goto off, 3)) (ht : (pc : Int) + off = (tgt : Int)) (kk : zw_G p l e R s m args below meth c Q E A nL k tgt L stk st) : zw_G p l e R s m args below meth c Q E A nL k pc L stk st := fun H locs ls hJ hL => lv_goto F.1.1 F.1.2.1 hd ht (kk H locs ls hJ hL)
theorem zg_tabOut (F : zw_F p m c cc nL s args own E kM) {dflt lo hi : Int} {offs : Array Int} {len : Nat} {x : Int32} (tgt : Nat) (hd : decode cc pc = .ok (.tableswitch dflt lo hi offs, len)) (h : x.toInt < lo ∨ hi < x.toInt) (ht : (pc : Int) + dflt = (tgt : Int)) (kk : zw_G p l e R s m args below meth c Q E A nL k tgt L stk st) : zw_G p l e R s m args below meth c Q E A nL k pc L (.int x :: stk) st := fun H locs ls hJ hL => lv_tableOut F.1.1 F.1.2.1 hd h ht (kk H locs ls hJ hL)
theorem zg_tabIn (F : zw_F p m c cc nL s args own E kM) {dflt lo hi : Int} {offs : Array Int} {len : Nat} {x : Int32} {off : Int} (tgt : Nat) (hd : decode cc pc = .ok (.tableswitch dflt lo hi offs, len)) (h1 : ¬ x.toInt < lo) (h2 : ¬ hi < x.toInt) (ho : offs[(x.toInt - lo).toNat]? = some off) (ht : (pc : Int) + off = (tgt : Int)) (kk : zw_G p l e R s m args below meth c Q E A nL k tgt L stk st) : zw_G p l e R s m args below meth c Q E A nL k pc L (.int x :: stk) st := fun H locs ls hJ hL => lv_tableIn F.1.1 F.1.2.1 hd h1 h2 ho ht (kk H locs ls hJ hL)
end ZG
set_option maxRecDepth 100000 in
theorem zw_inT0 : ∀ w ∈ u_ws zR0 zT0 12, w ∈ lw_tbl := by decide +kernel
set_option maxRecDepth 100000 in
theorem zw_inG0 : ∀ w ∈ u_ws zR0 zT0 12, goodWord w = true := by decide +kernel
theorem zw_in0 : ∀ w ∈ u_ws zR0 zT0 12, w ∈ zwAll := fun w hw => zw_mem (zw_inT0 w hw) (zw_inG0 w hw)
theorem zw_ty0 : ∀ k, k < 12 → parseFieldDescriptor (zT0 k).2.2.1 = some (zY0 k) := by decide +kernel
theorem zw_nm0 : ∀ a, a < 12 → ∀ b, b < 12 → a ≠ b → (zT0 a).2.1 ≠ (zT0 b).2.1 := by decide +kernel
set_option maxRecDepth 100000 in
theorem zw_inT1 : ∀ w ∈ u_ws zR1 zT1 5, w ∈ lw_tbl := by decide +kernel
set_option maxRecDepth 100000 in
theorem zw_inG1 : ∀ w ∈ u_ws zR1 zT1 5, goodWord w = true := by decide +kernel
theorem zw_in1 : ∀ w ∈ u_ws zR1 zT1 5, w ∈ zwAll := fun w hw => zw_mem (zw_inT1 w hw) (zw_inG1 w hw)
theorem zw_ty1 : ∀ k, k < 5 → parseFieldDescriptor (zT1 k).2.2.1 = some (zY1 k) := by decide +kernel
theorem zw_nm1 : ∀ a, a < 5 → ∀ b, b < 5 → a ≠ b → (zT1 a).2.1 ≠ (zT1 b).2.1 := by decide +kernel
set_option maxRecDepth 100000 in
theorem zw_inT2 : ∀ w ∈ u_ws zR2 zT2 13, w ∈ lw_tbl := by decide +kernel
set_option maxRecDepth 100000 in
theorem zw_inG2 : ∀ w ∈ u_ws zR2 zT2 13, goodWord w = true := by decide +kernel
theorem zw_in2 : ∀ w ∈ u_ws zR2 zT2 13, w ∈ zwAll := fun w hw => zw_mem (zw_inT2 w hw) (zw_inG2 w hw)
theorem zw_ty2 : ∀ k, k < 13 → parseFieldDescriptor (zT2 k).2.2.1 = some (zY2 k) := by decide +kernel
theorem zw_nm2 : ∀ a, a < 13 → ∀ b, b < 13 → a ≠ b → (zT2 a).2.1 ≠ (zT2 b).2.1 := by decide +kernel
set_option maxRecDepth 100000 in
theorem zw_inT3 : ∀ w ∈ u_ws zR3 zT3 6, w ∈ lw_tbl := by decide +kernel
set_option maxRecDepth 100000 in
theorem zw_inG3 : ∀ w ∈ u_ws zR3 zT3 6, goodWord w = true := by decide +kernel
theorem zw_in3 : ∀ w ∈ u_ws zR3 zT3 6, w ∈ zwAll := fun w hw => zw_mem (zw_inT3 w hw) (zw_inG3 w hw)
theorem zw_ty3 : ∀ k, k < 6 → parseFieldDescriptor (zT3 k).2.2.1 = some (zY3 k) := by decide +kernel
theorem zw_nm3 : ∀ a, a < 6 → ∀ b, b < 6 → a ≠ b → (zT3 a).2.1 ≠ (zT3 b).2.1 := by decide +kernel
set_option maxRecDepth 100000 in
theorem zw_inT4 : ∀ w ∈ u_ws zR4 zT4 5, w ∈ lw_tbl := by decide +kernel
set_option maxRecDepth 100000 in
theorem zw_inG4 : ∀ w ∈ u_ws zR4 zT4 5, goodWord w = true := by decide +kernel
theorem zw_in4 : ∀ w ∈ u_ws zR4 zT4 5, w ∈ zwAll := fun w hw => zw_mem (zw_inT4 w hw) (zw_inG4 w hw)
theorem zw_ty4 : ∀ k, k < 5 → parseFieldDescriptor (zT4 k).2.2.1 = some (zY4 k) := by decide +kernel
theorem zw_nm4 : ∀ a, a < 5 → ∀ b, b < 5 → a ≠ b → (zT4 a).2.1 ≠ (zT4 b).2.1 := by decide +kernel
set_option maxRecDepth 100000 in
theorem zw_inT10 : ∀ w ∈ u_ws zR10 zT10 23, w ∈ lw_tbl := by decide +kernel
set_option maxRecDepth 100000 in
theorem zw_inG10 : ∀ w ∈ u_ws zR10 zT10 23, goodWord w = true := by decide +kernel
theorem zw_in10 : ∀ w ∈ u_ws zR10 zT10 23, w ∈ zwAll := fun w hw => zw_mem (zw_inT10 w hw) (zw_inG10 w hw)
theorem zw_ty10 : ∀ k, k < 23 → parseFieldDescriptor (zT10 k).2.2.1 = some (zY10 k) := by decide +kernel
theorem zw_nm10 : ∀ a, a < 23 → ∀ b, b < 23 → a ≠ b → (zT10 a).2.1 ≠ (zT10 b).2.1 := by decide +kernel
section ZH
variable {p : Program} {l : Launch} {e : Env} {R : Room} {s : State} {m : MethodId} {args : Array Value} {below : List Frame} {meth : Method} {c : Code} {Q : State → Prop} {cc : ByteArray} {own : String} {E : zE} {A : Nat → Prop} {nL kM k pc : Nat} {L : List (Option Value)} {stk : List Value} {st : zS}
theorem zg_getI0 (F : zw_F p m c cc nL s args own E kM) (hM : 0 < kM) {q : Nat} (hq : zw_kind q = 0) (j : Nat) (hj : j < 12) (x : Int32) (hv : ([.ref (E.2.2.1 1), .ref (E.2.2.1 4), .ref (E.2.2.1 9), .ref (E.2.2.1 10), .ref (E.2.2.1 35), .int (st q 5), .int (st q 6), .int (st q 7), .int (st q 8), .int (st q 9), .int (st q 10), .int (st q 11)] : List Value)[j]? = some (.int (st q j))) (hx : st q j = x) {index : Nat} (hw : Cond.fieldLink own index (zT0 j).1 (zT0 j).2.1 (zT0 j).2.2.1 ∈ zwAll) (hd : decode cc pc = .ok (.getfield index, 3)) (kk : zw_G p l e R s m args below meth c Q E A nL k (pc + 3) L (.int x :: stk) st) : zw_G p l e R s m args below meth c Q E A nL k pc L (.ref q :: stk) st := fun H locs ls hJ hL =>
  va_get (D := E.1) (C := zR0) (T := zT0) (N := 12) (ci := 0) F.1.1 F.1.2.1 F.1.2.2.2.2 zw_in0 F.1.2.2.2.1 F.2.1 hJ.1 q (by rw [zw_get E st (F.2.2 q (by rw [hq]; exact hM)), zw_ent0 E st hq]) rfl j hj (F.1.2.2.2.2 _ hw) (fun _ h => h) (hx ▸ hv) hd (kk H locs ls hJ hL)
theorem zg_getR0 (F : zw_F p m c cc nL s args own E kM) (hM : 0 < kM) {q : Nat} (hq : zw_kind q = 0) (j : Nat) (hj : j < 12) (r : Nat) (hv : ([.ref (E.2.2.1 1), .ref (E.2.2.1 4), .ref (E.2.2.1 9), .ref (E.2.2.1 10), .ref (E.2.2.1 35), .int (st q 5), .int (st q 6), .int (st q 7), .int (st q 8), .int (st q 9), .int (st q 10), .int (st q 11)] : List Value)[j]? = some (.ref (E.2.2.1 r))) {index : Nat} (hw : Cond.fieldLink own index (zT0 j).1 (zT0 j).2.1 (zT0 j).2.2.1 ∈ zwAll) (hd : decode cc pc = .ok (.getfield index, 3)) (kk : zw_G p l e R s m args below meth c Q E A nL k (pc + 3) L (.ref r :: stk) st) : zw_G p l e R s m args below meth c Q E A nL k pc L (.ref q :: stk) st := fun H locs ls hJ hL =>
  va_get (D := E.1) (C := zR0) (T := zT0) (N := 12) (ci := 0) F.1.1 F.1.2.1 F.1.2.2.2.2 zw_in0 F.1.2.2.2.1 F.2.1 hJ.1 q (by rw [zw_get E st (F.2.2 q (by rw [hq]; exact hM)), zw_ent0 E st hq]) rfl j hj (F.1.2.2.2.2 _ hw) (fun _ h => h) hv hd (kk H locs ls hJ hL)
theorem zg_putI0 (F : zw_F p m c cc nL s args own E kM) (hM : 0 < kM) {q : Nat} (hq : zw_kind q = 0) (j : Nat) (hj : j < 12) (hji : j = 5 ∨ j = 6 ∨ j = 7 ∨ j = 8 ∨ j = 9 ∨ j = 10 ∨ j = 11) {x : Int32} (ty : FieldType) (ht : parseFieldDescriptor (zT0 j).2.2.1 = some ty) (hf : (zT0 j).2.2.2 = false) (hn : narrow ty (.int x) = .int x) (hfit : fits ty (.int x) = true) {index : Nat} (hw : Cond.fieldLink own index (zT0 j).1 (zT0 j).2.1 (zT0 j).2.2.1 ∈ zwAll) (hd : decode cc pc = .ok (.putfield index, 3)) (kk : zw_G p l e R s m args below meth c Q E A nL k (pc + 3) L stk (zp st q j x)) : zw_G p l e R s m args below meth c Q E A nL k pc L (.int x :: .ref q :: stk) st := fun H locs ls hJ hL =>
  va_put (D := E.1) (fs := [.ref (E.2.2.1 1), .ref (E.2.2.1 4), .ref (E.2.2.1 9), .ref (E.2.2.1 10), .ref (E.2.2.1 35), .int (st q 5), .int (st q 6), .int (st q 7), .int (st q 8), .int (st q 9), .int (st q 10), .int (st q 11)]) (C := zR0) (T := zT0) (N := 12) (ci := 0) F.1.1 F.1.2.1 F.1.2.2.2.2 zw_in0 zY0 zw_ty0 zw_nm0 F.1.2.2.2.1 F.2.1 hJ.1 hJ.2.1 hJ.2.2 q (by rw [zw_get E st (F.2.2 q (by rw [hq]; exact hM)), zw_ent0 E st hq]) rfl j hj (F.1.2.2.2.2 _ hw) (fun _ h => h) hf ht hn hfit hj hd (fun H1 locs1 hP1 hD1 hS1 => kk H1 locs1 ls ⟨(zw_put E (F.2.2 q (by rw [hq]; exact hM)) (zw_put0 E st x hq hji)) ▸ hP1, zw_D _ hJ.2.1, hS1⟩ hL)
theorem zg_getI1 (F : zw_F p m c cc nL s args own E kM) (hM : 1 < kM) {q : Nat} (hq : zw_kind q = 1) (j : Nat) (hj : j < 5) (x : Int32) (hv : ([.ref (E.2.2.1 2), .ref (E.2.2.1 3), .int (st q 2), .int (st q 3), .int (st q 4)] : List Value)[j]? = some (.int (st q j))) (hx : st q j = x) {index : Nat} (hw : Cond.fieldLink own index (zT1 j).1 (zT1 j).2.1 (zT1 j).2.2.1 ∈ zwAll) (hd : decode cc pc = .ok (.getfield index, 3)) (kk : zw_G p l e R s m args below meth c Q E A nL k (pc + 3) L (.int x :: stk) st) : zw_G p l e R s m args below meth c Q E A nL k pc L (.ref q :: stk) st := fun H locs ls hJ hL =>
  va_get (D := E.1) (C := zR1) (T := zT1) (N := 5) (ci := 1) F.1.1 F.1.2.1 F.1.2.2.2.2 zw_in1 F.1.2.2.2.1 F.2.1 hJ.1 q (by rw [zw_get E st (F.2.2 q (by rw [hq]; exact hM)), zw_ent1 E st hq]) rfl j hj (F.1.2.2.2.2 _ hw) (fun _ h => h) (hx ▸ hv) hd (kk H locs ls hJ hL)
theorem zg_getR1 (F : zw_F p m c cc nL s args own E kM) (hM : 1 < kM) {q : Nat} (hq : zw_kind q = 1) (j : Nat) (hj : j < 5) (r : Nat) (hv : ([.ref (E.2.2.1 2), .ref (E.2.2.1 3), .int (st q 2), .int (st q 3), .int (st q 4)] : List Value)[j]? = some (.ref (E.2.2.1 r))) {index : Nat} (hw : Cond.fieldLink own index (zT1 j).1 (zT1 j).2.1 (zT1 j).2.2.1 ∈ zwAll) (hd : decode cc pc = .ok (.getfield index, 3)) (kk : zw_G p l e R s m args below meth c Q E A nL k (pc + 3) L (.ref r :: stk) st) : zw_G p l e R s m args below meth c Q E A nL k pc L (.ref q :: stk) st := fun H locs ls hJ hL =>
  va_get (D := E.1) (C := zR1) (T := zT1) (N := 5) (ci := 1) F.1.1 F.1.2.1 F.1.2.2.2.2 zw_in1 F.1.2.2.2.1 F.2.1 hJ.1 q (by rw [zw_get E st (F.2.2 q (by rw [hq]; exact hM)), zw_ent1 E st hq]) rfl j hj (F.1.2.2.2.2 _ hw) (fun _ h => h) hv hd (kk H locs ls hJ hL)
theorem zg_putI1 (F : zw_F p m c cc nL s args own E kM) (hM : 1 < kM) {q : Nat} (hq : zw_kind q = 1) (j : Nat) (hj : j < 5) (hji : j = 2 ∨ j = 3 ∨ j = 4) {x : Int32} (ty : FieldType) (ht : parseFieldDescriptor (zT1 j).2.2.1 = some ty) (hf : (zT1 j).2.2.2 = false) (hn : narrow ty (.int x) = .int x) (hfit : fits ty (.int x) = true) {index : Nat} (hw : Cond.fieldLink own index (zT1 j).1 (zT1 j).2.1 (zT1 j).2.2.1 ∈ zwAll) (hd : decode cc pc = .ok (.putfield index, 3)) (kk : zw_G p l e R s m args below meth c Q E A nL k (pc + 3) L stk (zp st q j x)) : zw_G p l e R s m args below meth c Q E A nL k pc L (.int x :: .ref q :: stk) st := fun H locs ls hJ hL =>
  va_put (D := E.1) (fs := [.ref (E.2.2.1 2), .ref (E.2.2.1 3), .int (st q 2), .int (st q 3), .int (st q 4)]) (C := zR1) (T := zT1) (N := 5) (ci := 1) F.1.1 F.1.2.1 F.1.2.2.2.2 zw_in1 zY1 zw_ty1 zw_nm1 F.1.2.2.2.1 F.2.1 hJ.1 hJ.2.1 hJ.2.2 q (by rw [zw_get E st (F.2.2 q (by rw [hq]; exact hM)), zw_ent1 E st hq]) rfl j hj (F.1.2.2.2.2 _ hw) (fun _ h => h) hf ht hn hfit hj hd (fun H1 locs1 hP1 hD1 hS1 => kk H1 locs1 ls ⟨(zw_put E (F.2.2 q (by rw [hq]; exact hM)) (zw_put1 E st x hq hji)) ▸ hP1, zw_D _ hJ.2.1, hS1⟩ hL)
theorem zg_getI2 (F : zw_F p m c cc nL s args own E kM) (hM : 2 < kM) {q : Nat} (hq : zw_kind q = 2) (j : Nat) (hj : j < 13) (x : Int32) (hv : ([.int (st q 0), .int (st q 1), .int (st q 2), .int (st q 3), .int (st q 4), .int (st q 5), .int (st q 6), .int (st q 7), .int (st q 8), .int (st q 9), .int (st q 10), .int (st q 11), .int (st q 12)] : List Value)[j]? = some (.int (st q j))) (hx : st q j = x) {index : Nat} (hw : Cond.fieldLink own index (zT2 j).1 (zT2 j).2.1 (zT2 j).2.2.1 ∈ zwAll) (hd : decode cc pc = .ok (.getfield index, 3)) (kk : zw_G p l e R s m args below meth c Q E A nL k (pc + 3) L (.int x :: stk) st) : zw_G p l e R s m args below meth c Q E A nL k pc L (.ref q :: stk) st := fun H locs ls hJ hL =>
  va_get (D := E.1) (C := zR2) (T := zT2) (N := 13) (ci := 2) F.1.1 F.1.2.1 F.1.2.2.2.2 zw_in2 F.1.2.2.2.1 F.2.1 hJ.1 q (by rw [zw_get E st (F.2.2 q (by rw [hq]; exact hM)), zw_ent2 E st hq]) rfl j hj (F.1.2.2.2.2 _ hw) (fun _ h => h) (hx ▸ hv) hd (kk H locs ls hJ hL)
theorem zg_putI2 (F : zw_F p m c cc nL s args own E kM) (hM : 2 < kM) {q : Nat} (hq : zw_kind q = 2) (j : Nat) (hj : j < 13) (hji : j = 0 ∨ j = 1 ∨ j = 2 ∨ j = 3 ∨ j = 4 ∨ j = 5 ∨ j = 6 ∨ j = 7 ∨ j = 8 ∨ j = 9 ∨ j = 10 ∨ j = 11 ∨ j = 12) {x : Int32} (ty : FieldType) (ht : parseFieldDescriptor (zT2 j).2.2.1 = some ty) (hf : (zT2 j).2.2.2 = false) (hn : narrow ty (.int x) = .int x) (hfit : fits ty (.int x) = true) {index : Nat} (hw : Cond.fieldLink own index (zT2 j).1 (zT2 j).2.1 (zT2 j).2.2.1 ∈ zwAll) (hd : decode cc pc = .ok (.putfield index, 3)) (kk : zw_G p l e R s m args below meth c Q E A nL k (pc + 3) L stk (zp st q j x)) : zw_G p l e R s m args below meth c Q E A nL k pc L (.int x :: .ref q :: stk) st := fun H locs ls hJ hL =>
  va_put (D := E.1) (fs := [.int (st q 0), .int (st q 1), .int (st q 2), .int (st q 3), .int (st q 4), .int (st q 5), .int (st q 6), .int (st q 7), .int (st q 8), .int (st q 9), .int (st q 10), .int (st q 11), .int (st q 12)]) (C := zR2) (T := zT2) (N := 13) (ci := 2) F.1.1 F.1.2.1 F.1.2.2.2.2 zw_in2 zY2 zw_ty2 zw_nm2 F.1.2.2.2.1 F.2.1 hJ.1 hJ.2.1 hJ.2.2 q (by rw [zw_get E st (F.2.2 q (by rw [hq]; exact hM)), zw_ent2 E st hq]) rfl j hj (F.1.2.2.2.2 _ hw) (fun _ h => h) hf ht hn hfit hj hd (fun H1 locs1 hP1 hD1 hS1 => kk H1 locs1 ls ⟨(zw_put E (F.2.2 q (by rw [hq]; exact hM)) (zw_put2 E st x hq hji)) ▸ hP1, zw_D _ hJ.2.1, hS1⟩ hL)
theorem zg_getI3 (F : zw_F p m c cc nL s args own E kM) (hM : 3 < kM) {q : Nat} (hq : zw_kind q = 3) (j : Nat) (hj : j < 6) (x : Int32) (hv : ([.int (st q 0), .int (st q 1), .int (st q 2), .int (st q 3), .int (st q 4), .int (st q 5)] : List Value)[j]? = some (.int (st q j))) (hx : st q j = x) {index : Nat} (hw : Cond.fieldLink own index (zT3 j).1 (zT3 j).2.1 (zT3 j).2.2.1 ∈ zwAll) (hd : decode cc pc = .ok (.getfield index, 3)) (kk : zw_G p l e R s m args below meth c Q E A nL k (pc + 3) L (.int x :: stk) st) : zw_G p l e R s m args below meth c Q E A nL k pc L (.ref q :: stk) st := fun H locs ls hJ hL =>
  va_get (D := E.1) (C := zR3) (T := zT3) (N := 6) (ci := 3) F.1.1 F.1.2.1 F.1.2.2.2.2 zw_in3 F.1.2.2.2.1 F.2.1 hJ.1 q (by rw [zw_get E st (F.2.2 q (by rw [hq]; exact hM)), zw_ent3 E st hq]) rfl j hj (F.1.2.2.2.2 _ hw) (fun _ h => h) (hx ▸ hv) hd (kk H locs ls hJ hL)
theorem zg_putI3 (F : zw_F p m c cc nL s args own E kM) (hM : 3 < kM) {q : Nat} (hq : zw_kind q = 3) (j : Nat) (hj : j < 6) (hji : j = 0 ∨ j = 1 ∨ j = 2 ∨ j = 3 ∨ j = 4 ∨ j = 5) {x : Int32} (ty : FieldType) (ht : parseFieldDescriptor (zT3 j).2.2.1 = some ty) (hf : (zT3 j).2.2.2 = false) (hn : narrow ty (.int x) = .int x) (hfit : fits ty (.int x) = true) {index : Nat} (hw : Cond.fieldLink own index (zT3 j).1 (zT3 j).2.1 (zT3 j).2.2.1 ∈ zwAll) (hd : decode cc pc = .ok (.putfield index, 3)) (kk : zw_G p l e R s m args below meth c Q E A nL k (pc + 3) L stk (zp st q j x)) : zw_G p l e R s m args below meth c Q E A nL k pc L (.int x :: .ref q :: stk) st := fun H locs ls hJ hL =>
  va_put (D := E.1) (fs := [.int (st q 0), .int (st q 1), .int (st q 2), .int (st q 3), .int (st q 4), .int (st q 5)]) (C := zR3) (T := zT3) (N := 6) (ci := 3) F.1.1 F.1.2.1 F.1.2.2.2.2 zw_in3 zY3 zw_ty3 zw_nm3 F.1.2.2.2.1 F.2.1 hJ.1 hJ.2.1 hJ.2.2 q (by rw [zw_get E st (F.2.2 q (by rw [hq]; exact hM)), zw_ent3 E st hq]) rfl j hj (F.1.2.2.2.2 _ hw) (fun _ h => h) hf ht hn hfit hj hd (fun H1 locs1 hP1 hD1 hS1 => kk H1 locs1 ls ⟨(zw_put E (F.2.2 q (by rw [hq]; exact hM)) (zw_put3 E st x hq hji)) ▸ hP1, zw_D _ hJ.2.1, hS1⟩ hL)
theorem zg_getI4 (F : zw_F p m c cc nL s args own E kM) (hM : 4 < kM) {q : Nat} (hq : zw_kind q = 4) (j : Nat) (hj : j < 5) (x : Int32) (hv : ([.ref (E.2.2.1 36), .ref (E.2.2.1 37), .ref (E.2.2.1 38), .ref (E.2.2.1 39), .int (st q 4)] : List Value)[j]? = some (.int (st q j))) (hx : st q j = x) {index : Nat} (hw : Cond.fieldLink own index (zT4 j).1 (zT4 j).2.1 (zT4 j).2.2.1 ∈ zwAll) (hd : decode cc pc = .ok (.getfield index, 3)) (kk : zw_G p l e R s m args below meth c Q E A nL k (pc + 3) L (.int x :: stk) st) : zw_G p l e R s m args below meth c Q E A nL k pc L (.ref q :: stk) st := fun H locs ls hJ hL =>
  va_get (D := E.1) (C := zR4) (T := zT4) (N := 5) (ci := 4) F.1.1 F.1.2.1 F.1.2.2.2.2 zw_in4 F.1.2.2.2.1 F.2.1 hJ.1 q (by rw [zw_get E st (F.2.2 q (by rw [hq]; exact hM)), zw_ent4 E st hq]) rfl j hj (F.1.2.2.2.2 _ hw) (fun _ h => h) (hx ▸ hv) hd (kk H locs ls hJ hL)
theorem zg_getR4 (F : zw_F p m c cc nL s args own E kM) (hM : 4 < kM) {q : Nat} (hq : zw_kind q = 4) (j : Nat) (hj : j < 5) (r : Nat) (hv : ([.ref (E.2.2.1 36), .ref (E.2.2.1 37), .ref (E.2.2.1 38), .ref (E.2.2.1 39), .int (st q 4)] : List Value)[j]? = some (.ref (E.2.2.1 r))) {index : Nat} (hw : Cond.fieldLink own index (zT4 j).1 (zT4 j).2.1 (zT4 j).2.2.1 ∈ zwAll) (hd : decode cc pc = .ok (.getfield index, 3)) (kk : zw_G p l e R s m args below meth c Q E A nL k (pc + 3) L (.ref r :: stk) st) : zw_G p l e R s m args below meth c Q E A nL k pc L (.ref q :: stk) st := fun H locs ls hJ hL =>
  va_get (D := E.1) (C := zR4) (T := zT4) (N := 5) (ci := 4) F.1.1 F.1.2.1 F.1.2.2.2.2 zw_in4 F.1.2.2.2.1 F.2.1 hJ.1 q (by rw [zw_get E st (F.2.2 q (by rw [hq]; exact hM)), zw_ent4 E st hq]) rfl j hj (F.1.2.2.2.2 _ hw) (fun _ h => h) hv hd (kk H locs ls hJ hL)
theorem zg_putI4 (F : zw_F p m c cc nL s args own E kM) (hM : 4 < kM) {q : Nat} (hq : zw_kind q = 4) (j : Nat) (hj : j < 5) (hji : j = 4) {x : Int32} (ty : FieldType) (ht : parseFieldDescriptor (zT4 j).2.2.1 = some ty) (hf : (zT4 j).2.2.2 = false) (hn : narrow ty (.int x) = .int x) (hfit : fits ty (.int x) = true) {index : Nat} (hw : Cond.fieldLink own index (zT4 j).1 (zT4 j).2.1 (zT4 j).2.2.1 ∈ zwAll) (hd : decode cc pc = .ok (.putfield index, 3)) (kk : zw_G p l e R s m args below meth c Q E A nL k (pc + 3) L stk (zp st q j x)) : zw_G p l e R s m args below meth c Q E A nL k pc L (.int x :: .ref q :: stk) st := fun H locs ls hJ hL =>
  va_put (D := E.1) (fs := [.ref (E.2.2.1 36), .ref (E.2.2.1 37), .ref (E.2.2.1 38), .ref (E.2.2.1 39), .int (st q 4)]) (C := zR4) (T := zT4) (N := 5) (ci := 4) F.1.1 F.1.2.1 F.1.2.2.2.2 zw_in4 zY4 zw_ty4 zw_nm4 F.1.2.2.2.1 F.2.1 hJ.1 hJ.2.1 hJ.2.2 q (by rw [zw_get E st (F.2.2 q (by rw [hq]; exact hM)), zw_ent4 E st hq]) rfl j hj (F.1.2.2.2.2 _ hw) (fun _ h => h) hf ht hn hfit hj hd (fun H1 locs1 hP1 hD1 hS1 => kk H1 locs1 ls ⟨(zw_put E (F.2.2 q (by rw [hq]; exact hM)) (zw_put4 E st x hq hji)) ▸ hP1, zw_D _ hJ.2.1, hS1⟩ hL)
theorem zg_getI10 (F : zw_F p m c cc nL s args own E kM) (hM : 10 < kM) {q : Nat} (hq : zw_kind q = 10) (j : Nat) (hj : j < 23) (x : Int32) (hv : ([.int (st q 0), .int (st q 1), .int (st q 2), .int (st q 3), .ref (E.2.2.1 41), .ref (E.2.2.1 42), .ref (E.2.2.1 43), .ref (E.2.2.1 44), .ref (E.2.2.1 45), .ref (E.2.2.1 46), .ref (E.2.2.1 47), .ref (E.2.2.1 48), .int (st q 12), .ref (E.2.2.1 49), .ref (E.2.2.1 50), .ref (E.2.2.1 51), .ref (E.2.2.1 52), .ref (E.2.2.1 53), .ref (E.2.2.1 54), .int (st q 19), .int (st q 20), .ref (E.2.2.1 55), .int (st q 22)] : List Value)[j]? = some (.int (st q j))) (hx : st q j = x) {index : Nat} (hw : Cond.fieldLink own index (zT10 j).1 (zT10 j).2.1 (zT10 j).2.2.1 ∈ zwAll) (hd : decode cc pc = .ok (.getfield index, 3)) (kk : zw_G p l e R s m args below meth c Q E A nL k (pc + 3) L (.int x :: stk) st) : zw_G p l e R s m args below meth c Q E A nL k pc L (.ref q :: stk) st := fun H locs ls hJ hL =>
  va_get (D := E.1) (C := zR10) (T := zT10) (N := 23) (ci := 5) F.1.1 F.1.2.1 F.1.2.2.2.2 zw_in10 F.1.2.2.2.1 F.2.1 hJ.1 q (by rw [zw_get E st (F.2.2 q (by rw [hq]; exact hM)), zw_ent10 E st hq]) rfl j hj (F.1.2.2.2.2 _ hw) (fun _ h => h) (hx ▸ hv) hd (kk H locs ls hJ hL)
theorem zg_getR10 (F : zw_F p m c cc nL s args own E kM) (hM : 10 < kM) {q : Nat} (hq : zw_kind q = 10) (j : Nat) (hj : j < 23) (r : Nat) (hv : ([.int (st q 0), .int (st q 1), .int (st q 2), .int (st q 3), .ref (E.2.2.1 41), .ref (E.2.2.1 42), .ref (E.2.2.1 43), .ref (E.2.2.1 44), .ref (E.2.2.1 45), .ref (E.2.2.1 46), .ref (E.2.2.1 47), .ref (E.2.2.1 48), .int (st q 12), .ref (E.2.2.1 49), .ref (E.2.2.1 50), .ref (E.2.2.1 51), .ref (E.2.2.1 52), .ref (E.2.2.1 53), .ref (E.2.2.1 54), .int (st q 19), .int (st q 20), .ref (E.2.2.1 55), .int (st q 22)] : List Value)[j]? = some (.ref (E.2.2.1 r))) {index : Nat} (hw : Cond.fieldLink own index (zT10 j).1 (zT10 j).2.1 (zT10 j).2.2.1 ∈ zwAll) (hd : decode cc pc = .ok (.getfield index, 3)) (kk : zw_G p l e R s m args below meth c Q E A nL k (pc + 3) L (.ref r :: stk) st) : zw_G p l e R s m args below meth c Q E A nL k pc L (.ref q :: stk) st := fun H locs ls hJ hL =>
  va_get (D := E.1) (C := zR10) (T := zT10) (N := 23) (ci := 5) F.1.1 F.1.2.1 F.1.2.2.2.2 zw_in10 F.1.2.2.2.1 F.2.1 hJ.1 q (by rw [zw_get E st (F.2.2 q (by rw [hq]; exact hM)), zw_ent10 E st hq]) rfl j hj (F.1.2.2.2.2 _ hw) (fun _ h => h) hv hd (kk H locs ls hJ hL)
theorem zg_putI10 (F : zw_F p m c cc nL s args own E kM) (hM : 10 < kM) {q : Nat} (hq : zw_kind q = 10) (j : Nat) (hj : j < 23) (hji : j = 0 ∨ j = 1 ∨ j = 2 ∨ j = 3 ∨ j = 12 ∨ j = 19 ∨ j = 20 ∨ j = 22) {x : Int32} (ty : FieldType) (ht : parseFieldDescriptor (zT10 j).2.2.1 = some ty) (hf : (zT10 j).2.2.2 = false) (hn : narrow ty (.int x) = .int x) (hfit : fits ty (.int x) = true) {index : Nat} (hw : Cond.fieldLink own index (zT10 j).1 (zT10 j).2.1 (zT10 j).2.2.1 ∈ zwAll) (hd : decode cc pc = .ok (.putfield index, 3)) (kk : zw_G p l e R s m args below meth c Q E A nL k (pc + 3) L stk (zp st q j x)) : zw_G p l e R s m args below meth c Q E A nL k pc L (.int x :: .ref q :: stk) st := fun H locs ls hJ hL =>
  va_put (D := E.1) (fs := [.int (st q 0), .int (st q 1), .int (st q 2), .int (st q 3), .ref (E.2.2.1 41), .ref (E.2.2.1 42), .ref (E.2.2.1 43), .ref (E.2.2.1 44), .ref (E.2.2.1 45), .ref (E.2.2.1 46), .ref (E.2.2.1 47), .ref (E.2.2.1 48), .int (st q 12), .ref (E.2.2.1 49), .ref (E.2.2.1 50), .ref (E.2.2.1 51), .ref (E.2.2.1 52), .ref (E.2.2.1 53), .ref (E.2.2.1 54), .int (st q 19), .int (st q 20), .ref (E.2.2.1 55), .int (st q 22)]) (C := zR10) (T := zT10) (N := 23) (ci := 5) F.1.1 F.1.2.1 F.1.2.2.2.2 zw_in10 zY10 zw_ty10 zw_nm10 F.1.2.2.2.1 F.2.1 hJ.1 hJ.2.1 hJ.2.2 q (by rw [zw_get E st (F.2.2 q (by rw [hq]; exact hM)), zw_ent10 E st hq]) rfl j hj (F.1.2.2.2.2 _ hw) (fun _ h => h) hf ht hn hfit hj hd (fun H1 locs1 hP1 hD1 hS1 => kk H1 locs1 ls ⟨(zw_put E (F.2.2 q (by rw [hq]; exact hM)) (zw_put10 E st x hq hji)) ▸ hP1, zw_D _ hJ.2.1, hS1⟩ hL)
theorem zw_puta5 (E : zE) (st : zS) {q : Nat} (pl : Nat) (x : Int32) (h : zw_kind q = 5) : zw_ent E (zp st q pl x) q = .inl (E.2.1 0, 10, .inl (upd (st q) pl x)) := by rw [zw_ent5 E _ h, zp_upd]
theorem zg_ald5 (F : zw_F p m c cc nL s args own E kM) (hM : 5 < kM) {q : Nat} (hq : zw_kind q = 5) {i : Int32} (hin : vp_in i 10) (pl : Nat) (hpl : i.toNatClampNeg = pl) (x : Int32) (hx : st q pl = x) (hd : decode cc pc = .ok (.iaload, 1)) (kk : zw_G p l e R s m args below meth c Q E A nL k (pc + 1) L (.int x :: stk) st) : zw_G p l e R s m args below meth c Q E A nL k pc L (.int i :: .ref q :: stk) st := fun H locs ls hJ hL =>
  va_iald (D := E.1) (cl := zwCl) (tys := zw_ty E) F.1.1 F.1.2.1 F.2.1 hJ.1 q 0 (by rw [zw_get E st (F.2.2 q (by rw [hq]; exact hM)), zw_ent5 E st hq]) rfl hin hd (by subst hpl; subst hx; exact kk H locs ls hJ hL)
theorem zg_ast5 (F : zw_F p m c cc nL s args own E kM) (hM : 5 < kM) {q : Nat} (hq : zw_kind q = 5) {i x : Int32} (hin : vp_in i 10) (pl : Nat) (hpl : i.toNatClampNeg = pl) (hd : decode cc pc = .ok (.iastore, 1)) (kk : zw_G p l e R s m args below meth c Q E A nL k (pc + 1) L stk (zp st q pl x)) : zw_G p l e R s m args below meth c Q E A nL k pc L (.int x :: .int i :: .ref q :: stk) st := fun H locs ls hJ hL => by
  subst hpl
  refine va_iast (D := E.1) (cl := zwCl) (tys := zw_ty E) (f := st q) F.1.1 F.1.2.1 F.2.1 hJ.1 hJ.2.1 hJ.2.2 q 0 (by rw [zw_get E st (F.2.2 q (by rw [hq]; exact hM)), zw_ent5 E st hq]) rfl hin hd (fun H1 locs1 hP1 hD1 hS1 => ?_)
  rw [zw_put E (F.2.2 q (by rw [hq]; exact hM)) (zw_puta5 E st _ x hq)] at hP1
  exact kk H1 locs1 ls ⟨hP1, zw_D _ hJ.2.1, hS1⟩ hL
theorem zw_puta8 (E : zE) (st : zS) {q : Nat} (pl : Nat) (x : Int32) (h : zw_kind q = 8) : zw_ent E (zp st q pl x) q = .inl (E.2.1 0, 30, .inl (upd (st q) pl x)) := by rw [zw_ent8 E _ h, zp_upd]
theorem zg_ald8 (F : zw_F p m c cc nL s args own E kM) (hM : 8 < kM) {q : Nat} (hq : zw_kind q = 8) {i : Int32} (hin : vp_in i 30) (pl : Nat) (hpl : i.toNatClampNeg = pl) (x : Int32) (hx : st q pl = x) (hd : decode cc pc = .ok (.iaload, 1)) (kk : zw_G p l e R s m args below meth c Q E A nL k (pc + 1) L (.int x :: stk) st) : zw_G p l e R s m args below meth c Q E A nL k pc L (.int i :: .ref q :: stk) st := fun H locs ls hJ hL =>
  va_iald (D := E.1) (cl := zwCl) (tys := zw_ty E) F.1.1 F.1.2.1 F.2.1 hJ.1 q 0 (by rw [zw_get E st (F.2.2 q (by rw [hq]; exact hM)), zw_ent8 E st hq]) rfl hin hd (by subst hpl; subst hx; exact kk H locs ls hJ hL)
theorem zg_ast8 (F : zw_F p m c cc nL s args own E kM) (hM : 8 < kM) {q : Nat} (hq : zw_kind q = 8) {i x : Int32} (hin : vp_in i 30) (pl : Nat) (hpl : i.toNatClampNeg = pl) (hd : decode cc pc = .ok (.iastore, 1)) (kk : zw_G p l e R s m args below meth c Q E A nL k (pc + 1) L stk (zp st q pl x)) : zw_G p l e R s m args below meth c Q E A nL k pc L (.int x :: .int i :: .ref q :: stk) st := fun H locs ls hJ hL => by
  subst hpl
  refine va_iast (D := E.1) (cl := zwCl) (tys := zw_ty E) (f := st q) F.1.1 F.1.2.1 F.2.1 hJ.1 hJ.2.1 hJ.2.2 q 0 (by rw [zw_get E st (F.2.2 q (by rw [hq]; exact hM)), zw_ent8 E st hq]) rfl hin hd (fun H1 locs1 hP1 hD1 hS1 => ?_)
  rw [zw_put E (F.2.2 q (by rw [hq]; exact hM)) (zw_puta8 E st _ x hq)] at hP1
  exact kk H1 locs1 ls ⟨hP1, zw_D _ hJ.2.1, hS1⟩ hL
theorem zw_puta11 (E : zE) (st : zS) {q : Nat} (pl : Nat) (x : Int32) (h : zw_kind q = 11) : zw_ent E (zp st q pl x) q = .inl (E.2.1 0, 5, .inl (upd (st q) pl x)) := by rw [zw_ent11 E _ h, zp_upd]
theorem zg_ald11 (F : zw_F p m c cc nL s args own E kM) (hM : 11 < kM) {q : Nat} (hq : zw_kind q = 11) {i : Int32} (hin : vp_in i 5) (pl : Nat) (hpl : i.toNatClampNeg = pl) (x : Int32) (hx : st q pl = x) (hd : decode cc pc = .ok (.iaload, 1)) (kk : zw_G p l e R s m args below meth c Q E A nL k (pc + 1) L (.int x :: stk) st) : zw_G p l e R s m args below meth c Q E A nL k pc L (.int i :: .ref q :: stk) st := fun H locs ls hJ hL =>
  va_iald (D := E.1) (cl := zwCl) (tys := zw_ty E) F.1.1 F.1.2.1 F.2.1 hJ.1 q 0 (by rw [zw_get E st (F.2.2 q (by rw [hq]; exact hM)), zw_ent11 E st hq]) rfl hin hd (by subst hpl; subst hx; exact kk H locs ls hJ hL)
theorem zg_ast11 (F : zw_F p m c cc nL s args own E kM) (hM : 11 < kM) {q : Nat} (hq : zw_kind q = 11) {i x : Int32} (hin : vp_in i 5) (pl : Nat) (hpl : i.toNatClampNeg = pl) (hd : decode cc pc = .ok (.iastore, 1)) (kk : zw_G p l e R s m args below meth c Q E A nL k (pc + 1) L stk (zp st q pl x)) : zw_G p l e R s m args below meth c Q E A nL k pc L (.int x :: .int i :: .ref q :: stk) st := fun H locs ls hJ hL => by
  subst hpl
  refine va_iast (D := E.1) (cl := zwCl) (tys := zw_ty E) (f := st q) F.1.1 F.1.2.1 F.2.1 hJ.1 hJ.2.1 hJ.2.2 q 0 (by rw [zw_get E st (F.2.2 q (by rw [hq]; exact hM)), zw_ent11 E st hq]) rfl hin hd (fun H1 locs1 hP1 hD1 hS1 => ?_)
  rw [zw_put E (F.2.2 q (by rw [hq]; exact hM)) (zw_puta11 E st _ x hq)] at hP1
  exact kk H1 locs1 ls ⟨hP1, zw_D _ hJ.2.1, hS1⟩ hL
theorem zw_puta12 (E : zE) (st : zS) {q : Nat} (pl : Nat) (x : Int32) (h : zw_kind q = 12) : zw_ent E (zp st q pl x) q = .inl (E.2.1 1, 5, .inl (upd (st q) pl x)) := by rw [zw_ent12 E _ h, zp_upd]
theorem zg_ald12 (F : zw_F p m c cc nL s args own E kM) (hM : 12 < kM) {q : Nat} (hq : zw_kind q = 12) {i : Int32} (hin : vp_in i 5) (pl : Nat) (hpl : i.toNatClampNeg = pl) (x : Int32) (hx : st q pl = x) (hd : decode cc pc = .ok (.baload, 1)) (kk : zw_G p l e R s m args below meth c Q E A nL k (pc + 1) L (.int x :: stk) st) : zw_G p l e R s m args below meth c Q E A nL k pc L (.int i :: .ref q :: stk) st := fun H locs ls hJ hL =>
  va_zald (D := E.1) (cl := zwCl) (tys := zw_ty E) F.1.1 F.1.2.1 F.2.1 hJ.1 q 1 (by rw [zw_get E st (F.2.2 q (by rw [hq]; exact hM)), zw_ent12 E st hq]) rfl hin hd (by subst hpl; subst hx; exact kk H locs ls hJ hL)
theorem zg_ast12 (F : zw_F p m c cc nL s args own E kM) (hM : 12 < kM) {q : Nat} (hq : zw_kind q = 12) {i x : Int32} (hin : vp_in i 5) (hb : vp_nar .boolean x = x) (pl : Nat) (hpl : i.toNatClampNeg = pl) (hd : decode cc pc = .ok (.bastore, 1)) (kk : zw_G p l e R s m args below meth c Q E A nL k (pc + 1) L stk (zp st q pl x)) : zw_G p l e R s m args below meth c Q E A nL k pc L (.int x :: .int i :: .ref q :: stk) st := fun H locs ls hJ hL => by
  subst hpl
  refine va_zast (D := E.1) (cl := zwCl) (tys := zw_ty E) (f := st q) F.1.1 F.1.2.1 F.2.1 hJ.1 hJ.2.1 hJ.2.2 q 1 (by rw [zw_get E st (F.2.2 q (by rw [hq]; exact hM)), zw_ent12 E st hq]) rfl hin hd (fun H1 locs1 hP1 hD1 hS1 => ?_)
  rw [hb] at hP1
  rw [zw_put E (F.2.2 q (by rw [hq]; exact hM)) (zw_puta12 E st _ x hq)] at hP1
  exact kk H1 locs1 ls ⟨hP1, zw_D _ hJ.2.1, hS1⟩ hL
theorem zw_puta13 (E : zE) (st : zS) {q : Nat} (pl : Nat) (x : Int32) (h : zw_kind q = 13) : zw_ent E (zp st q pl x) q = .inl (E.2.1 0, 48, .inl (upd (st q) pl x)) := by rw [zw_ent13 E _ h, zp_upd]
theorem zg_ald13 (F : zw_F p m c cc nL s args own E kM) (hM : 13 < kM) {q : Nat} (hq : zw_kind q = 13) {i : Int32} (hin : vp_in i 48) (pl : Nat) (hpl : i.toNatClampNeg = pl) (x : Int32) (hx : st q pl = x) (hd : decode cc pc = .ok (.iaload, 1)) (kk : zw_G p l e R s m args below meth c Q E A nL k (pc + 1) L (.int x :: stk) st) : zw_G p l e R s m args below meth c Q E A nL k pc L (.int i :: .ref q :: stk) st := fun H locs ls hJ hL =>
  va_iald (D := E.1) (cl := zwCl) (tys := zw_ty E) F.1.1 F.1.2.1 F.2.1 hJ.1 q 0 (by rw [zw_get E st (F.2.2 q (by rw [hq]; exact hM)), zw_ent13 E st hq]) rfl hin hd (by subst hpl; subst hx; exact kk H locs ls hJ hL)
theorem zg_ast13 (F : zw_F p m c cc nL s args own E kM) (hM : 13 < kM) {q : Nat} (hq : zw_kind q = 13) {i x : Int32} (hin : vp_in i 48) (pl : Nat) (hpl : i.toNatClampNeg = pl) (hd : decode cc pc = .ok (.iastore, 1)) (kk : zw_G p l e R s m args below meth c Q E A nL k (pc + 1) L stk (zp st q pl x)) : zw_G p l e R s m args below meth c Q E A nL k pc L (.int x :: .int i :: .ref q :: stk) st := fun H locs ls hJ hL => by
  subst hpl
  refine va_iast (D := E.1) (cl := zwCl) (tys := zw_ty E) (f := st q) F.1.1 F.1.2.1 F.2.1 hJ.1 hJ.2.1 hJ.2.2 q 0 (by rw [zw_get E st (F.2.2 q (by rw [hq]; exact hM)), zw_ent13 E st hq]) rfl hin hd (fun H1 locs1 hP1 hD1 hS1 => ?_)
  rw [zw_put E (F.2.2 q (by rw [hq]; exact hM)) (zw_puta13 E st _ x hq)] at hP1
  exact kk H1 locs1 ls ⟨hP1, zw_D _ hJ.2.1, hS1⟩ hL
theorem zw_puta14 (E : zE) (st : zS) {q : Nat} (pl : Nat) (x : Int32) (h : zw_kind q = 14) : zw_ent E (zp st q pl x) q = .inl (E.2.1 0, 24, .inl (upd (st q) pl x)) := by rw [zw_ent14 E _ h, zp_upd]
theorem zg_ald14 (F : zw_F p m c cc nL s args own E kM) (hM : 14 < kM) {q : Nat} (hq : zw_kind q = 14) {i : Int32} (hin : vp_in i 24) (pl : Nat) (hpl : i.toNatClampNeg = pl) (x : Int32) (hx : st q pl = x) (hd : decode cc pc = .ok (.iaload, 1)) (kk : zw_G p l e R s m args below meth c Q E A nL k (pc + 1) L (.int x :: stk) st) : zw_G p l e R s m args below meth c Q E A nL k pc L (.int i :: .ref q :: stk) st := fun H locs ls hJ hL =>
  va_iald (D := E.1) (cl := zwCl) (tys := zw_ty E) F.1.1 F.1.2.1 F.2.1 hJ.1 q 0 (by rw [zw_get E st (F.2.2 q (by rw [hq]; exact hM)), zw_ent14 E st hq]) rfl hin hd (by subst hpl; subst hx; exact kk H locs ls hJ hL)
theorem zg_ast14 (F : zw_F p m c cc nL s args own E kM) (hM : 14 < kM) {q : Nat} (hq : zw_kind q = 14) {i x : Int32} (hin : vp_in i 24) (pl : Nat) (hpl : i.toNatClampNeg = pl) (hd : decode cc pc = .ok (.iastore, 1)) (kk : zw_G p l e R s m args below meth c Q E A nL k (pc + 1) L stk (zp st q pl x)) : zw_G p l e R s m args below meth c Q E A nL k pc L (.int x :: .int i :: .ref q :: stk) st := fun H locs ls hJ hL => by
  subst hpl
  refine va_iast (D := E.1) (cl := zwCl) (tys := zw_ty E) (f := st q) F.1.1 F.1.2.1 F.2.1 hJ.1 hJ.2.1 hJ.2.2 q 0 (by rw [zw_get E st (F.2.2 q (by rw [hq]; exact hM)), zw_ent14 E st hq]) rfl hin hd (fun H1 locs1 hP1 hD1 hS1 => ?_)
  rw [zw_put E (F.2.2 q (by rw [hq]; exact hM)) (zw_puta14 E st _ x hq)] at hP1
  exact kk H1 locs1 ls ⟨hP1, zw_D _ hJ.2.1, hS1⟩ hL
theorem zw_puta15 (E : zE) (st : zS) {q : Nat} (pl : Nat) (x : Int32) (h : zw_kind q = 15) : zw_ent E (zp st q pl x) q = .inl (E.2.1 0, 120, .inl (upd (st q) pl x)) := by rw [zw_ent15 E _ h, zp_upd]
theorem zg_ald15 (F : zw_F p m c cc nL s args own E kM) (hM : 15 < kM) {q : Nat} (hq : zw_kind q = 15) {i : Int32} (hin : vp_in i 120) (pl : Nat) (hpl : i.toNatClampNeg = pl) (x : Int32) (hx : st q pl = x) (hd : decode cc pc = .ok (.iaload, 1)) (kk : zw_G p l e R s m args below meth c Q E A nL k (pc + 1) L (.int x :: stk) st) : zw_G p l e R s m args below meth c Q E A nL k pc L (.int i :: .ref q :: stk) st := fun H locs ls hJ hL =>
  va_iald (D := E.1) (cl := zwCl) (tys := zw_ty E) F.1.1 F.1.2.1 F.2.1 hJ.1 q 0 (by rw [zw_get E st (F.2.2 q (by rw [hq]; exact hM)), zw_ent15 E st hq]) rfl hin hd (by subst hpl; subst hx; exact kk H locs ls hJ hL)
theorem zg_ast15 (F : zw_F p m c cc nL s args own E kM) (hM : 15 < kM) {q : Nat} (hq : zw_kind q = 15) {i x : Int32} (hin : vp_in i 120) (pl : Nat) (hpl : i.toNatClampNeg = pl) (hd : decode cc pc = .ok (.iastore, 1)) (kk : zw_G p l e R s m args below meth c Q E A nL k (pc + 1) L stk (zp st q pl x)) : zw_G p l e R s m args below meth c Q E A nL k pc L (.int x :: .int i :: .ref q :: stk) st := fun H locs ls hJ hL => by
  subst hpl
  refine va_iast (D := E.1) (cl := zwCl) (tys := zw_ty E) (f := st q) F.1.1 F.1.2.1 F.2.1 hJ.1 hJ.2.1 hJ.2.2 q 0 (by rw [zw_get E st (F.2.2 q (by rw [hq]; exact hM)), zw_ent15 E st hq]) rfl hin hd (fun H1 locs1 hP1 hD1 hS1 => ?_)
  rw [zw_put E (F.2.2 q (by rw [hq]; exact hM)) (zw_puta15 E st _ x hq)] at hP1
  exact kk H1 locs1 ls ⟨hP1, zw_D _ hJ.2.1, hS1⟩ hL
theorem zg_ald6 (F : zw_F p m c cc nL s args own E kM) (hM : 6 < kM) {q : Nat} (hq : zw_kind q = 6) {i : Int32} (hin : vp_in i 4) (pl : Nat) (hpl : i.toNatClampNeg = pl) (hd : decode cc pc = .ok (.aaload, 1)) (kk : zw_G p l e R s m args below meth c Q E A nL k (pc + 1) L (.ref (5 + pl) :: stk) st) : zw_G p l e R s m args below meth c Q E A nL k pc L (.int i :: .ref q :: stk) st := fun H locs ls hJ hL =>
  va_aldq (D := E.1) (cl := zwCl) (tys := zw_ty E) F.1.1 F.1.2.1 F.2.1 hJ.1 q 2 (by rw [zw_get E st (F.2.2 q (by rw [hq]; exact hM)), zw_ent6 E st hq]) rfl hin hd (by subst hpl; exact kk H locs ls hJ hL)
theorem zg_ald7 (F : zw_F p m c cc nL s args own E kM) (hM : 7 < kM) {q : Nat} (hq : zw_kind q = 7) {i : Int32} (hin : vp_in i 24) (pl : Nat) (hpl : i.toNatClampNeg = pl) (hd : decode cc pc = .ok (.aaload, 1)) (kk : zw_G p l e R s m args below meth c Q E A nL k (pc + 1) L (.ref (11 + pl) :: stk) st) : zw_G p l e R s m args below meth c Q E A nL k pc L (.int i :: .ref q :: stk) st := fun H locs ls hJ hL =>
  va_aldq (D := E.1) (cl := zwCl) (tys := zw_ty E) F.1.1 F.1.2.1 F.2.1 hJ.1 q 3 (by rw [zw_get E st (F.2.2 q (by rw [hq]; exact hM)), zw_ent7 E st hq]) rfl hin hd (by subst hpl; exact kk H locs ls hJ hL)
theorem zg_lald (F : zw_F p m c cc nL s args own E kM) (hM : 16 < kM) {q : Nat} (hq : zw_kind q = 16) {i : Int32} (hin : vp_in i 1) (pl : Nat) (hpl : i.toNatClampNeg = pl) (x : Int32) (hx : st q pl = x) (hd : decode cc pc = .ok (.laload, 1)) (kk : zw_G p l e R s m args below meth c Q E A nL k (pc + 1) L (.long x.toInt64 :: stk) st) : zw_G p l e R s m args below meth c Q E A nL k pc L (.int i :: .ref q :: stk) st := fun H locs ls hJ hL =>
  va_lald (D := E.1) (cl := zwCl) (tys := zw_ty E) F.1.1 F.1.2.1 F.2.1 hJ.1 q 4 (by rw [zw_get E st (F.2.2 q (by rw [hq]; exact hM)), zw_ent16 E st hq]) rfl hin hd (by subst hpl; subst hx; exact kk H locs ls hJ hL)
theorem zg_last (F : zw_F p m c cc nL s args own E kM) (hM : 16 < kM) {q : Nat} (hq : zw_kind q = 16) {i x : Int32} {v : Int64} (hin : vp_in i 1) (hx : x.toInt64 = v) (pl : Nat) (hpl : i.toNatClampNeg = pl) (hd : decode cc pc = .ok (.lastore, 1)) (kk : zw_G p l e R s m args below meth c Q E A nL k (pc + 1) L stk (zp st q pl x)) : zw_G p l e R s m args below meth c Q E A nL k pc L (.long v :: .int i :: .ref q :: stk) st := fun H locs ls hJ hL => by
  subst hpl; subst hx
  refine va_last (D := E.1) (cl := zwCl) (tys := zw_ty E) (f := fun j => (st q j).toInt64) F.1.1 F.1.2.1 F.2.1 hJ.1 hJ.2.1 hJ.2.2 q 4 (by rw [zw_get E st (F.2.2 q (by rw [hq]; exact hM)), zw_ent16 E st hq]) rfl hin hd (fun H1 locs1 hP1 hD1 hS1 => ?_)
  have e9 : zw_ent E (zp st q i.toNatClampNeg x) q = .inl (E.2.1 4, 1, .inr (.inl (vp_updL (fun j => (st q j).toInt64) i.toNatClampNeg x.toInt64))) := by
    rw [zw_ent16 E _ hq, zp_upd]; congr 5; funext b; unfold upd vp_updL; split <;> rfl
  rw [zw_put E (F.2.2 q (by rw [hq]; exact hM)) e9] at hP1
  exact kk H1 locs1 ls ⟨hP1, zw_D _ hJ.2.1, hS1⟩ hL
theorem zg_rec0 (F : zw_F p m c cc nL s args own E kM) (hM : 0 < kM) {q : Nat} (hq : zw_kind q = 0) (H : Heap) (locs : List Loc) (hJ : zw_J E A s.heap st H locs) : ∃ cell : Cell, H[E.2.2.1 q]? = some cell ∧ cell.vm.isStatics = false ∧ s.vm.findClass zR0 = some cell.cls :=
  va_recv F.2.1 hJ.1 (q := (zR0, zT0, 12)) (ci := 0) rfl (by rw [zw_get E st (F.2.2 q (by rw [hq]; exact hM)), zw_ent0 E st hq])
theorem zg_rec1 (F : zw_F p m c cc nL s args own E kM) (hM : 1 < kM) {q : Nat} (hq : zw_kind q = 1) (H : Heap) (locs : List Loc) (hJ : zw_J E A s.heap st H locs) : ∃ cell : Cell, H[E.2.2.1 q]? = some cell ∧ cell.vm.isStatics = false ∧ s.vm.findClass zR1 = some cell.cls :=
  va_recv F.2.1 hJ.1 (q := (zR1, zT1, 5)) (ci := 1) rfl (by rw [zw_get E st (F.2.2 q (by rw [hq]; exact hM)), zw_ent1 E st hq])
theorem zg_rec2 (F : zw_F p m c cc nL s args own E kM) (hM : 2 < kM) {q : Nat} (hq : zw_kind q = 2) (H : Heap) (locs : List Loc) (hJ : zw_J E A s.heap st H locs) : ∃ cell : Cell, H[E.2.2.1 q]? = some cell ∧ cell.vm.isStatics = false ∧ s.vm.findClass zR2 = some cell.cls :=
  va_recv F.2.1 hJ.1 (q := (zR2, zT2, 13)) (ci := 2) rfl (by rw [zw_get E st (F.2.2 q (by rw [hq]; exact hM)), zw_ent2 E st hq])
theorem zg_rec3 (F : zw_F p m c cc nL s args own E kM) (hM : 3 < kM) {q : Nat} (hq : zw_kind q = 3) (H : Heap) (locs : List Loc) (hJ : zw_J E A s.heap st H locs) : ∃ cell : Cell, H[E.2.2.1 q]? = some cell ∧ cell.vm.isStatics = false ∧ s.vm.findClass zR3 = some cell.cls :=
  va_recv F.2.1 hJ.1 (q := (zR3, zT3, 6)) (ci := 3) rfl (by rw [zw_get E st (F.2.2 q (by rw [hq]; exact hM)), zw_ent3 E st hq])
theorem zg_rec4 (F : zw_F p m c cc nL s args own E kM) (hM : 4 < kM) {q : Nat} (hq : zw_kind q = 4) (H : Heap) (locs : List Loc) (hJ : zw_J E A s.heap st H locs) : ∃ cell : Cell, H[E.2.2.1 q]? = some cell ∧ cell.vm.isStatics = false ∧ s.vm.findClass zR4 = some cell.cls :=
  va_recv F.2.1 hJ.1 (q := (zR4, zT4, 5)) (ci := 4) rfl (by rw [zw_get E st (F.2.2 q (by rw [hq]; exact hM)), zw_ent4 E st hq])
theorem zg_rec10 (F : zw_F p m c cc nL s args own E kM) (hM : 10 < kM) {q : Nat} (hq : zw_kind q = 10) (H : Heap) (locs : List Loc) (hJ : zw_J E A s.heap st H locs) : ∃ cell : Cell, H[E.2.2.1 q]? = some cell ∧ cell.vm.isStatics = false ∧ s.vm.findClass zR10 = some cell.cls :=
  va_recv F.2.1 hJ.1 (q := (zR10, zT10, 23)) (ci := 5) rfl (by rw [zw_get E st (F.2.2 q (by rw [hq]; exact hM)), zw_ent10 E st hq])
theorem zg_recv (F : zw_F p m c cc nL s args own E kM) {ci q : Nat} {r : vw_C} {fs : List Value} (hn : q < E.2.2.2) (he : zw_ent E st q = .inr (ci, fs)) (hc : zwCl[ci]? = some r) {H : Heap} {locs : List Loc} (hJ : zw_J E A s.heap st H locs) : ∃ cell : Cell, H[E.2.2.1 q]? = some cell ∧ cell.vm.isStatics = false ∧ s.vm.findClass r.1 = some cell.cls :=
  va_recv F.2.1 hJ.1 hc (by rw [zw_get E st hn, he])
def zw_B (E : zE) (st : zS) (sz : Nat) (U : State) : Prop := U.heap.size = sz ∧ va_P E.1 zwCl (zw_ws E st) U.heap ∧ va_K E.1 zwCl (zw_ty E) U ∧ va_D (fun _ => True) (zw_ws E st)
def zw_A (E : zE) (sz : Nat) : Nat → Prop := fun a => (∃ q, q < E.2.2.2 ∧ a = E.2.2.1 q) ∨ sz ≤ a
theorem zw_A.sub {E : zE} {a b : Nat} (h : a ≤ b) : ∀ q, zw_A E b q → zw_A E a q := fun q hq => hq.elim Or.inl (fun h2 => Or.inr (Nat.le_trans h h2))
theorem zw_DA {E : zE} {A : Nat → Prop} {st : zS} (sz : Nat) (h : va_D A (zw_ws E st)) : va_D (zw_A E sz) (zw_ws E st) := ⟨h.1, fun k x hx => by
  by_cases hl : k < E.2.2.2
  · rw [zw_get E st hl] at hx
    cases hx
    exact Or.inl ⟨k, hl, rfl⟩
  · rw [zw_getn E st hl] at hx
    cases hx⟩
def zw_Q (E : zE) (v : Option Value) (st' : zS) (A : Nat → Prop) : Array Value → State → Outcome → State → Prop := fun _ s0 oc t => (oc = .returned (v.map (zw_v E.2.2.1)) ∧ va_P E.1 zwCl (zw_ws E st') t.heap) ∧ va_F A s0 t
def zw_M (l : Launch) (y : MethodName) (ws : List Cond) (rm : Room) (E : zE) (av : List Value) (st : zS) (v : Option Value) (st' : zS) : Prop := ∀ sz, Met l y ws rm (va_Pc (av.map (zw_v E.2.2.1)) (zw_B E st sz)) (zw_Q E v st' (zw_A E sz)) 0 0 (zw_A E sz)
theorem zw_blind (E : zE) (av : List Value) (st : zS) (sz : Nat) : FrameBlind (va_Pc av (zw_B E st sz)) := fun a U g mk q => by
  obtain ⟨q0, q1, qP, qK, qD⟩ := q
  exact ⟨q0, q1, qP, va_K.moved (u := U) (U := U.calling g mk a) (Vm.Alike.refl U.vm) qK, qD⟩
theorem zw_pre {av : List Value} {H : Heap} {locs : List Loc} (F : zw_F p m c cc nL s args own E kM) (hJ : zw_J E A s.heap st H locs) : PreS s H (va_Pc (av.map (zw_v E.2.2.1)) (zw_B E st H.size)) (av.map (zw_v E.2.2.1)) :=
  ⟨zw_blind E _ st _, fun U hU hW => ⟨rfl, by rw [hU], by rw [hU]; exact hJ.1, va_K.moved hW.alike F.2.1, ⟨hJ.2.1.1, fun _ _ _ => trivial⟩⟩⟩
theorem zg_back {v : Option Value} {st' : zS} {a : Array Value} {st0 rest : List Value} {H : Heap} {locs : List Loc} {ls : Array Slot} (hAs : ∀ q, s.heap.size ≤ q → A q) (hJ : zw_J E A s.heap st H locs) (hL : zw_L E.2.2.1 ls nL L)
    (hr : va_Run p l e R s m args below meth c H locs k (6 * k) 0 0 (F0 m pc ls st0) (rest.map (zw_v E.2.2.1)) (zw_Q E v st' (zw_A E H.size) a) (zw_A E H.size))
    (kk : zw_G p l e R s m args below meth c Q E A nL k (pc + 3) L (v.toList ++ rest) st') : W p l e R s m args below meth c H locs k (6 * k) Q (F0 m pc ls st0) := by
  have hAA : ∀ q, zw_A E H.size q → A q := fun q hq => by
    rcases hq with ⟨i, hi, rfl⟩ | h
    · exact hJ.2.1.2 i _ (zw_get E st hi)
    · exact hAs q (Nat.le_trans hJ.2.2.1 h)
  intro T hT X
  obtain ⟨v0, st₀, t, T', Lo, h0, X', hLo, e1, e2, ⟨⟨hv, hP⟩, hz, hk⟩, st9⟩ := hr T hT X
  have hv := Outcome.returned.inj hv
  subst hv
  rw [h0] at hz hk
  have hJ' : zw_J E A s.heap st' T'.heap (locs ++ Lo) := by
    refine ⟨by rw [e1]; exact hP, zw_D _ hJ.2.1, ?_, ?_, ?_⟩
    · rw [e1]; exact Nat.le_trans hJ.2.2.1 hz
    · intro q h1 h2
      rw [e1, hk q (Nat.lt_of_lt_of_le h1 hJ.2.2.1) (fun z => h2 (hAA q z))]
      exact hJ.2.2.2.1 q h1 h2
    · intro q hq
      rcases List.mem_append.mp hq with h | h
      · exact hJ.2.2.2.2 q h
      · exact hAA _ (hLo q h)
  obtain ⟨t2, a1, b1⟩ := kk T'.heap (locs ++ Lo) ls hJ' hL T' rfl X'
  refine ⟨t2, st9 t2 ?_, b1⟩
  have e9 : ((v.map (zw_v E.2.2.1)).toList ++ rest.map (zw_v E.2.2.1)) = (v.toList ++ rest).map (zw_v E.2.2.1) := by cases v <;> simp
  show Steps p.tables e below (T'.setTop { (F0 m pc ls st0) with pc := pc + 3, stack := (v.map (zw_v E.2.2.1)).toList ++ rest.map (zw_v E.2.2.1) }) t2
  rw [e9]
  exact a1
end ZH
section ZI
variable {p : Program} {l : Launch} {e : Env} {R : Room} {s : State} {m : MethodId} {args : Array Value} {below : List Frame} {meth : Method} {c : Code} {Q : State → Prop} {cc : ByteArray} {own : String} {E : zE} {A : Nat → Prop} {nL kM k pc : Nat} {L : List (Option Value)} {stk : List Value} {st : zS}
def zw_X (p : Program) (m : MethodId) (c : Code) (cc : ByteArray) (nL : Nat) (s : State) (args : Array Value) (own : String) (E : zE) (kM : Nat) (A : Nat → Prop) (meth : Method) (ret : Option FieldType) : Prop := zw_F p m c cc nL s args own E kM ∧ (∀ q, s.heap.size ≤ q → A q) ∧ meth.sig.returnType = ret ∧ meth.locks = false
theorem zw_nb {x : Int32} (h : x = 0 ∨ x = 1) : narrow .boolean (.int x) = .int x := by rcases h with rfl | rfl <;> rfl
theorem zw_nv {x : Int32} (h : x = 0 ∨ x = 1) : vp_nar .boolean x = x := by rcases h with rfl | rfl <;> rfl
theorem zw_fb {x : Int32} (h : x = 0 ∨ x = 1) : fits .boolean (.int x) = true := by rcases h with rfl | rfl <;> rfl
theorem zw_nle {E : zE} {a b : Nat} (h : a ≤ b) (hn : zw_n E b) : zw_n E a := fun q hq => hn q (Nat.lt_of_lt_of_le hq h)
theorem zw_kk {q a k k' : Nat} (h : zw_kind q = k) (h' : zw_kind a = k') (hk : k ≠ k') : q ≠ a := fun e => hk (by rw [← h, ← h', e])
theorem zw_carI {i : Int32} (h : vp_in i 4) : zw_kind (5 + i.toNatClampNeg) = 2 := zw_car (by have := Nat.not_le.mp fun q => h (Or.inr q); omega)
theorem zw_riderI {i : Int32} (h : vp_in i 24) : zw_kind (11 + i.toNatClampNeg) = 3 := zw_rider (Nat.not_le.mp fun q => h (Or.inr q))
theorem zw_sw0_1 {x : Int32} (h0 : ¬ x = 0) (h1 : ¬ x = 1) : x.toInt < 0 ∨ 1 < x.toInt := by
  have a0 := lv_neT (a := 0) h0 (by decide)
  have a1 := lv_neT (a := 1) h1 (by decide)
  omega
theorem zw_sw0_2 {x : Int32} (h0 : ¬ x = 0) (h1 : ¬ x = 1) (h2 : ¬ x = 2) : x.toInt < 0 ∨ 2 < x.toInt := by
  have a0 := lv_neT (a := 0) h0 (by decide)
  have a1 := lv_neT (a := 1) h1 (by decide)
  have a2 := lv_neT (a := 2) h2 (by decide)
  omega
theorem zw_sw0_3 {x : Int32} (h0 : ¬ x = 0) (h1 : ¬ x = 1) (h2 : ¬ x = 2) (h3 : ¬ x = 3) : x.toInt < 0 ∨ 3 < x.toInt := by
  have a0 := lv_neT (a := 0) h0 (by decide)
  have a1 := lv_neT (a := 1) h1 (by decide)
  have a2 := lv_neT (a := 2) h2 (by decide)
  have a3 := lv_neT (a := 3) h3 (by decide)
  omega
theorem zw_sw0_4 {x : Int32} (h0 : ¬ x = 0) (h1 : ¬ x = 1) (h2 : ¬ x = 2) (h3 : ¬ x = 3) (h4 : ¬ x = 4) : x.toInt < 0 ∨ 4 < x.toInt := by
  have a0 := lv_neT (a := 0) h0 (by decide)
  have a1 := lv_neT (a := 1) h1 (by decide)
  have a2 := lv_neT (a := 2) h2 (by decide)
  have a3 := lv_neT (a := 3) h3 (by decide)
  have a4 := lv_neT (a := 4) h4 (by decide)
  omega
theorem zw_sw0_5 {x : Int32} (h0 : ¬ x = 0) (h1 : ¬ x = 1) (h2 : ¬ x = 2) (h3 : ¬ x = 3) (h4 : ¬ x = 4) (h5 : ¬ x = 5) : x.toInt < 0 ∨ 5 < x.toInt := by
  have a0 := lv_neT (a := 0) h0 (by decide)
  have a1 := lv_neT (a := 1) h1 (by decide)
  have a2 := lv_neT (a := 2) h2 (by decide)
  have a3 := lv_neT (a := 3) h3 (by decide)
  have a4 := lv_neT (a := 4) h4 (by decide)
  have a5 := lv_neT (a := 5) h5 (by decide)
  omega
theorem zw_sw0_13 {x : Int32} (h0 : ¬ x = 0) (h1 : ¬ x = 1) (h2 : ¬ x = 2) (h3 : ¬ x = 3) (h4 : ¬ x = 4) (h5 : ¬ x = 5) (h6 : ¬ x = 6) (h7 : ¬ x = 7) (h8 : ¬ x = 8) (h9 : ¬ x = 9) (h10 : ¬ x = 10) (h11 : ¬ x = 11) (h12 : ¬ x = 12) (h13 : ¬ x = 13) : x.toInt < 0 ∨ 13 < x.toInt := by
  have a0 := lv_neT (a := 0) h0 (by decide)
  have a1 := lv_neT (a := 1) h1 (by decide)
  have a2 := lv_neT (a := 2) h2 (by decide)
  have a3 := lv_neT (a := 3) h3 (by decide)
  have a4 := lv_neT (a := 4) h4 (by decide)
  have a5 := lv_neT (a := 5) h5 (by decide)
  have a6 := lv_neT (a := 6) h6 (by decide)
  have a7 := lv_neT (a := 7) h7 (by decide)
  have a8 := lv_neT (a := 8) h8 (by decide)
  have a9 := lv_neT (a := 9) h9 (by decide)
  have a10 := lv_neT (a := 10) h10 (by decide)
  have a11 := lv_neT (a := 11) h11 (by decide)
  have a12 := lv_neT (a := 12) h12 (by decide)
  have a13 := lv_neT (a := 13) h13 (by decide)
  omega
theorem zg_iret (F : zw_X p m c cc nL s args own E kM A meth (some .int)) {v : Int32} (hd : decode cc pc = .ok (.ireturn, 1)) : zw_G p l e R s m args below meth c (MQ below (zw_Q E (some (.int v)) st A) args s 0 0 A) E A nL 0 pc L [.int v] st := fun H locs ls hJ hL =>
  W.iret F.1.1.1 F.1.1.2.1 F.2.2.1 (fun t ht hW => ⟨⟨rfl, by rw [ht]; exact hJ.1⟩, hJ.2.2.F ht⟩) hJ.2.2.2.2 hd F.2.2.2
theorem zg_zret (F : zw_X p m c cc nL s args own E kM A meth (some .boolean)) {v : Int32} (hv : v = 0 ∨ v = 1) (hd : decode cc pc = .ok (.ireturn, 1)) : zw_G p l e R s m args below meth c (MQ below (zw_Q E (some (.int v)) st A) args s 0 0 A) E A nL 0 pc L [.int v] st := fun H locs ls hJ hL =>
  W.zret F.1.1.1 F.1.1.2.1 F.2.2.1 (zw_nb hv) (fun t ht hW => ⟨⟨rfl, by rw [ht]; exact hJ.1⟩, hJ.2.2.F ht⟩) hJ.2.2.2.2 hd F.2.2.2
theorem zg_vret (F : zw_X p m c cc nL s args own E kM A meth none) (hd : decode cc pc = .ok (.return_, 1)) : zw_G p l e R s m args below meth c (MQ below (zw_Q E none st A) args s 0 0 A) E A nL 0 pc L [] st := fun H locs ls hJ hL =>
  W.vret F.1.1.1 F.1.1.2.1 F.2.2.1 (fun t ht hW => ⟨⟨rfl, by rw [ht]; exact hJ.1⟩, hJ.2.2.F ht⟩) hJ.2.2.2.2 hd F.2.2.2
theorem zg_ldcw (F : zw_F p m c cc nL s args own E kM) {index : Nat} (v : Int32) (hw : Cond.constant own index v ∈ zwAll) (hd : decode cc pc = .ok (.ldc_w index, 3)) (kk : zw_G p l e R s m args below meth c Q E A nL k (pc + 3) L (.int v :: stk) st) : zw_G p l e R s m args below meth c Q E A nL k pc L stk st := fun H locs ls hJ hL =>
  lv_ldcw F.1.1 F.1.2.1 F.1.2.2.2.1 (F.1.2.2.2.2 _ hw) hd (kk H locs ls hJ hL)
theorem zg_aret {C0 : String} (F : zw_X p m c cc nL s args own E kM A meth (some (.object C0))) {q : Nat} (hr : (1 : Nat) = 1) (hd : decode cc pc = .ok (.areturn, 1)) : zw_G p l e R s m args below meth c (MQ below (zw_Q E (some (.ref q)) st A) args s 0 0 A) E A nL 0 pc L [.ref q] st := fun H locs ls hJ hL =>
  W.aret F.1.1.1 F.1.1.2.1 F.2.2.1 (Or.inl ⟨_, rfl⟩) (Or.inr ⟨_, rfl⟩) (fun t ht hW => ⟨⟨rfl, by rw [ht]; exact hJ.1⟩, hJ.2.2.F ht⟩) hJ.2.2.2.2 hd F.2.2.2
theorem zg_mmax (F : zw_F p m c cc nL s args own E kM) {index : Nat} (hw : Cond.methodLink own index Lib.Math.max.name ∈ zwAll) (h1 : Cond.static Lib.Math.max.name ∈ zwAll) (h2 : Cond.initialized "java/lang/Math" ∈ zwAll) (h3 : Cond.code Lib.Math.max.name Lib.Math.max.code 2 (some .int) ∈ zwAll) (hfr : 1 ≤ R.frames) (hlo : (stk.map fun v => v.category).sum + 13 ≤ R.locals) (hc : k ≤ R.cells) (hs : 6 * k ≤ R.slots) {x y : Int32} (hd : decode cc pc = .ok (.invokestatic index, 3))
    (kk : zw_G p l e R s m args below meth c Q E A nL k (pc + 3) L (.int (if x < y then y else x) :: stk) st) : zw_G p l e R s m args below meth c Q E A nL k pc L (.int y :: .int x :: stk) st := fun H locs ls hJ hL =>
  va_mmax F.1.1 F.1.2.1 (F.1.2.2.1.trans hL.1.symm) F.1.2.2.2.1 (F.1.2.2.2.2 _ hw) (F.1.2.2.2.2 _ h1) (F.1.2.2.2.2 _ h2) (F.1.2.2.2.2 _ h3) hfr (by rw [List.map_map, show ((fun v : Value => v.category) ∘ zw_v E.2.2.1) = (fun v : Value => v.category) from funext (zw_cat _)]; exact hlo) hc hs hd (kk H locs ls hJ hL)
theorem zg_mmin (F : zw_F p m c cc nL s args own E kM) {index : Nat} (hw : Cond.methodLink own index Lib.Math.min.name ∈ zwAll) (h1 : Cond.static Lib.Math.min.name ∈ zwAll) (h2 : Cond.initialized "java/lang/Math" ∈ zwAll) (h3 : Cond.code Lib.Math.min.name Lib.Math.min.code 2 (some .int) ∈ zwAll) (hfr : 1 ≤ R.frames) (hlo : (stk.map fun v => v.category).sum + 13 ≤ R.locals) (hc : k ≤ R.cells) (hs : 6 * k ≤ R.slots) {x y : Int32} (hd : decode cc pc = .ok (.invokestatic index, 3))
    (kk : zw_G p l e R s m args below meth c Q E A nL k (pc + 3) L (.int (if y < x then y else x) :: stk) st) : zw_G p l e R s m args below meth c Q E A nL k pc L (.int y :: .int x :: stk) st := fun H locs ls hJ hL =>
  va_mmin F.1.1 F.1.2.1 (F.1.2.2.1.trans hL.1.symm) F.1.2.2.2.1 (F.1.2.2.2.2 _ hw) (F.1.2.2.2.2 _ h1) (F.1.2.2.2.2 _ h2) (F.1.2.2.2.2 _ h3) hfr (by rw [List.map_map, show ((fun v : Value => v.category) ∘ zw_v E.2.2.1) = (fun v : Value => v.category) from funext (zw_cat _)]; exact hlo) hc hs hd (kk H locs ls hJ hL)

theorem zw_args (ad : Nat → Nat) : ∀ (av : List Value) (k i : Nat) (v : Value), (∀ v ∈ av, v.category = 1) → av[i]? = some v → (k + i, zw_v ad v) ∈ lv_args k (av.map (zw_v ad))
  | [], k, i, v, hc, h => by cases h
  | a :: av, k, i, v, hc, h => by
    have ha : ¬ (zw_v ad a).category = 2 := by rw [zw_cat, hc a List.mem_cons_self]; decide
    rw [List.map_cons]
    unfold lv_args
    rw [if_neg ha]
    cases i with
    | zero => cases h; exact List.mem_cons_self
    | succ i =>
      have := zw_args ad av (k + 1) i v (fun v hv => hc v (List.mem_cons_of_mem _ hv)) h
      rw [show k + (i + 1) = k + 1 + i by omega]
      exact List.mem_cons_of_mem _ this
theorem zw_L0 {av : List Value} {n i : Nat} {v : Value} (h : (av.map some ++ List.replicate n none)[i]? = some (some v)) : av[i]? = some v := by
  rcases Nat.lt_or_ge i av.length with h1 | h1
  · rw [List.getElem?_append_left (by simpa using h1), List.getElem?_map] at h
    cases ha : av[i]? with
    | none => rw [ha] at h; cases h
    | some x => rw [ha] at h; cases h; rfl
  · rw [List.getElem?_append_right (by simpa using h1), List.getElem?_replicate] at h
    split at h <;> cases h
theorem zw_enter {y : MethodName} {rm : Room} {ret : Option FieldType} {av : List Value} {v : Option Value} {st' : zS} (hy : plainName y.cls = true) (hown : y.cls = own) (hn : zw_n E kM) (hlen : (lg_sl (av.map (zw_v E.2.2.1))).length ≤ nL) (hcat : ∀ v ∈ av, v.category = 1) (n : Nat)
    (body : ∀ (p : Program) (e : Env) (s : State) (m : MethodId) (args : Array Value) (below : List Frame) (meth : Method) (c : Code) (A : Nat → Prop), zw_X p m c cc nL s args own E kM A meth ret → zw_G p l e rm s m args below meth c (MQ below (zw_Q E v st' A) args s 0 0 A) E A nL 0 0 (av.map some ++ List.replicate n none) [] st) : zw_M l y (Cond.code y cc nL ret :: zwAll) rm E av st v st' := by
  intro sz
  refine Met.ofW (cc := cc) (maxL := nL) (ret := ret) hy rfl ?_
  intro p e s m args below meth c s₁ B hml hv
  obtain ⟨rfl, hsz, hP, hK, hD0⟩ := hv
  have hts := atoms_spec (ws := Cond.code y cc nL ret :: zwAll) B.pre
  have hown' : s.vm.findClass own = some m.cls := by rw [← hown]; exact findClass_of_methodNamed B.named
  subst hsz
  have hl := lv_entry (av.map (zw_v E.2.2.1)) (n := nL) hlen
  rw [lg_entry_eq]
  exact body p e s m _ below meth c (zw_A E s.heap.size) ⟨⟨⟨B.exec, B.bytes, hml, hown', fun w h => hts w (List.mem_cons_of_mem _ h)⟩, hK, hn⟩, fun q h => Or.inr h, B.returns, B.notSynchronized⟩ s.heap [] _ ⟨hP, zw_DA s.heap.size hD0, va_S.rf⟩
    ⟨hl.1, hl.2.1, fun i v hi => ⟨hl.2.2 _ (by have := zw_args E.2.2.1 av 0 i v hcat (zw_L0 hi); rwa [Nat.zero_add] at this), hcat v (List.mem_of_getElem? (zw_L0 hi))⟩⟩
def zw_cal (C : String) (y : MethodName) (bytes : ByteArray) (maxL : Nat) (ret : Option FieldType) (n : Nat) : Prop := Cond.instanceMethod y ∈ zwAll ∧ Cond.selects C y y ∈ zwAll ∧ Cond.initialized C ∈ zwAll ∧ Cond.code y bytes maxL ret ∈ zwAll ∧ y.cls = C ∧ y.cls ≠ "java/lang/invoke/MethodHandle" ∧ y.cls ≠ "java/lang/invoke/VarHandle" ∧ (parseMethodDescriptor y.desc).map (fun d => d.parameters.length) = some n
def zw_calS (y : MethodName) (bytes : ByteArray) (maxL : Nat) (ret : Option FieldType) (n : Nat) : Prop := Cond.static y ∈ zwAll ∧ Cond.initialized y.cls ∈ zwAll ∧ Cond.code y bytes maxL ret ∈ zwAll ∧ y.cls ≠ "java/lang/invoke/MethodHandle" ∧ y.cls ≠ "java/lang/invoke/VarHandle" ∧ (parseMethodDescriptor y.desc).map (fun d => d.parameters.length) = some n
theorem zw_gi {y : MethodName} {bytes : ByteArray} {maxL : Nat} {ret : Option FieldType} (h : Cond.code y bytes maxL ret ∈ zwAll) : GoodIn zwAll (Cond.code y bytes maxL ret :: zwAll) := fun w hw => by
  rcases List.mem_cons.mp hw with rfl | hw
  · exact ⟨h, zw_good _ h⟩
  · exact ⟨hw, zw_good _ hw⟩
theorem zg_callV {ret0 : Option FieldType} (F : zw_X p m c cc nL s args own E kM A meth ret0) {y : MethodName} {bytes : ByteArray} {maxL index q : Nat} {ret : Option FieldType} {rm : Room} {C : String} {As rest : List Value} {v : Option Value} {st' : zS} (hM : zw_M l y (Cond.code y bytes maxL ret :: zwAll) rm E (.ref q :: As) st v st')
    (hc0 : rm.cells = 0) (hs0 : rm.slots = 0) (hcal : zw_cal C y bytes maxL ret As.length) (hl : Cond.methodLink own index y ∈ zwAll) (hR : rm.frames + 1 ≤ R.frames ∧ 8 + (maxL + 11) + rm.locals ≤ R.locals)
    (hrec : ∀ (H : Heap) (locs : List Loc), zw_J E A s.heap st H locs → ∃ cell : Cell, H[E.2.2.1 q]? = some cell ∧ cell.vm.isStatics = false ∧ s.vm.findClass C = some cell.cls) (hs : stk = As.reverse ++ .ref q :: rest) (hrm : (rest.map fun v => v.category).sum ≤ 8) (hk : k ≤ R.cells ∧ 6 * k ≤ R.slots) (hd : decode cc pc = .ok (.invokevirtual index, 3))
    (kk : zw_G p l e R s m args below meth c Q E A nL k (pc + 3) L (v.toList ++ rest) st') : zw_G p l e R s m args below meth c Q E A nL k pc L stk st := fun H locs ls hJ hL => by
  obtain ⟨c1, c2, c3, c4, c5, c6, c7, c8⟩ := hcal
  have ht := F.1.1.2.2.2.2
  have hcw : CallW R s args own C index y bytes maxL ret (Cond.code y bytes maxL ret :: zwAll) rm 0 0 As.length :=
    ⟨callB_of As.length ht (zw_gi c4) rfl hc0 hs0 (by rw [c5]; exact ht _ c3) (ht _ hl) ⟨c6, c7, c8⟩ hR, ht _ c1, ht _ c2⟩
  refine zg_back F.2.1 hJ hL (a := (.ref (E.2.2.1 q) :: As.map (zw_v E.2.2.1)).toArray) (va_runV (C := C) (As := As.map (zw_v E.2.2.1)) (rest := rest.map (zw_v E.2.2.1)) F.1.1 (hM H.size) hcw ⟨zw_blind E _ st _, hrec H locs hJ, (zw_pre (av := .ref q :: As) F.1 hJ).2⟩ rfl (by simp) hL.1 ?_ (lv_room ?_) hd hk) kk
  · subst hs
    show List.map _ _ = _
    simp [zw_v]
  · rw [List.map_map, show ((fun v : Value => v.category) ∘ zw_v E.2.2.1) = (fun v : Value => v.category) from funext (zw_cat _)]
    exact hrm
theorem zg_callS {ret0 : Option FieldType} (F : zw_X p m c cc nL s args own E kM A meth ret0) {y : MethodName} {bytes : ByteArray} {maxL index : Nat} {ret : Option FieldType} {rm : Room} {As rest : List Value} {v : Option Value} {st' : zS} (hM : zw_M l y (Cond.code y bytes maxL ret :: zwAll) rm E As st v st')
    (hc0 : rm.cells = 0) (hs0 : rm.slots = 0) (hcal : zw_calS y bytes maxL ret As.length) (hl : Cond.methodLink own index y ∈ zwAll) (hR : rm.frames + 1 ≤ R.frames ∧ 8 + (maxL + 11) + rm.locals ≤ R.locals)
    (hs : stk = As.reverse ++ rest) (hrm : (rest.map fun v => v.category).sum ≤ 8) (hk : k ≤ R.cells ∧ 6 * k ≤ R.slots) (hd : decode cc pc = .ok (.invokestatic index, 3))
    (kk : zw_G p l e R s m args below meth c Q E A nL k (pc + 3) L (v.toList ++ rest) st') : zw_G p l e R s m args below meth c Q E A nL k pc L stk st := fun H locs ls hJ hL => by
  obtain ⟨c1, c3, c4, c6, c7, c8⟩ := hcal
  have ht := F.1.1.2.2.2.2
  refine zg_back F.2.1 hJ hL (a := (As.map (zw_v E.2.2.1)).toArray) (va_runS (As := As.map (zw_v E.2.2.1)) (rest := rest.map (zw_v E.2.2.1)) F.1.1 (hM H.size) ⟨callB_of As.length ht (zw_gi c4) rfl hc0 hs0 (ht _ c3) (ht _ hl) ⟨c6, c7, c8⟩ hR, ht _ c1⟩ (zw_pre F.1 hJ) rfl (by simp) hL.1 ?_ (lv_room ?_) hd hk) kk
  · subst hs
    show List.map _ _ = _
    simp [zw_v]
  · rw [List.map_map, show ((fun v : Value => v.category) ∘ zw_v E.2.2.1) = (fun v : Value => v.category) from funext (zw_cat _)]
    exact hrm
end ZI
