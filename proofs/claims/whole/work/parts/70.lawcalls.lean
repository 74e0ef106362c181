/-! what the pure part owes: each call of the class and of the reference, from states that belong together, ends, answers alike, and leaves such states -/
def Sim_row (Rel : Nat → MS → MS → MS → MS → MS → MS → MS → MS → (Nat → MS) → (Nat → MS) → MS → Prop) : Prop := ∀ (k : Nat) (σP σL σG σR σT σC σA σK : MS) (ω ι : Nat → MS) (σ : MS) (a1 : Int32) (a2 : Int32) (a3 : Int32), k < 512 → Rel k σP σL σG σR σT σC σA σK ω ι σ → ∃ (r : Int32) (σP' : MS) (ω' : (Nat → MS)) (σ' : MS), FP_row σP ω a1 a2 a3 = some (r, σP', ω') ∧ FM_row σ a1 a2 a3 = some (r, σ') ∧ Rel (k + 1) σP' σL σG σR σT σC σA σK ω' ι σ'
def Sim_set (Rel : Nat → MS → MS → MS → MS → MS → MS → MS → MS → (Nat → MS) → (Nat → MS) → MS → Prop) : Prop := ∀ (k : Nat) (σP σL σG σR σT σC σA σK : MS) (ω ι : Nat → MS) (σ : MS) (a1 : Int32) (a2 : Int32) (a3 : Int32), k < 512 → Rel k σP σL σG σR σT σC σA σK ω ι σ → ∃ (r : Int32) (σP' : MS) (ω' : (Nat → MS)) (σ' : MS), FP_set σP ω a1 a2 a3 = some (r, σP', ω') ∧ FM_set σ a1 a2 a3 = some (r, σ') ∧ Rel (k + 1) σP' σL σG σR σT σC σA σK ω' ι σ'
def Sim_copy (Rel : Nat → MS → MS → MS → MS → MS → MS → MS → MS → (Nat → MS) → (Nat → MS) → MS → Prop) : Prop := ∀ (k : Nat) (σP σL σG σR σT σC σA σK : MS) (ω ι : Nat → MS) (σ : MS) (a1 : Int32) (a2 : Int32) (a3 : Int32) (a4 : Int32) (a5 : Int32), k < 512 → Rel k σP σL σG σR σT σC σA σK ω ι σ → ∃ (r : Int32) (σP' : MS) (ω' : (Nat → MS)) (σ' : MS), FP_copy σP ω a1 a2 a3 a4 a5 = some (r, σP', ω') ∧ FM_copy σ a1 a2 a3 a4 a5 = some (r, σ') ∧ Rel (k + 1) σP' σL σG σR σT σC σA σK ω' ι σ'
def Sim_drop (Rel : Nat → MS → MS → MS → MS → MS → MS → MS → MS → (Nat → MS) → (Nat → MS) → MS → Prop) : Prop := ∀ (k : Nat) (σP σL σG σR σT σC σA σK : MS) (ω ι : Nat → MS) (σ : MS) (a1 : Int32), k < 512 → Rel k σP σL σG σR σT σC σA σK ω ι σ → ∃ (r : Int32) (σP' : MS) (ω' : (Nat → MS)) (σ' : MS), FP_drop σP ω a1 = some (r, σP', ω') ∧ FM_drop σ a1 = some (r, σ') ∧ Rel (k + 1) σP' σL σG σR σT σC σA σK ω' ι σ'
def Sim_feed (Rel : Nat → MS → MS → MS → MS → MS → MS → MS → MS → (Nat → MS) → (Nat → MS) → MS → Prop) : Prop := ∀ (k : Nat) (σP σL σG σR σT σC σA σK : MS) (ω ι : Nat → MS) (σ : MS) (a1 : Int64) (a2 : Int32), k < 512 → Rel k σP σL σG σR σT σC σA σK ω ι σ → ∃ (r : Int32) (σT' : MS) (σ' : MS), FP_feed σT a1 a2 = some (r, σT') ∧ FM_feed σ a1 a2 = some (r, σ') ∧ Rel (k + 1) σP σL σG σR σT' σC σA σK ω ι σ'
def Sim_realm (Rel : Nat → MS → MS → MS → MS → MS → MS → MS → MS → (Nat → MS) → (Nat → MS) → MS → Prop) : Prop := ∀ (k : Nat) (σP σL σG σR σT σC σA σK : MS) (ω ι : Nat → MS) (σ : MS), k < 512 → Rel k σP σL σG σR σT σC σA σK ω ι σ → ∃ (rr : Int32) (σR1 σT1 σG1 σT2 : MS) (r : Int32) (σ' : MS), FR_read σR σT σG = some (rr, σR1, σT1, σG1) ∧ FT_empty σT1 = some σT2 ∧ FM_realm σ = some (r, σ') ∧ ((rr = 0 ∧ r = -1000100 - σR1.1 3 ∧ Rel (k + 1) (setF σP 10 (σR1.1 2)) σL σG1 σR1 σT2 σC σA σK ω ι σ') ∨ (¬ rr = 0 ∧ r = σG1.1 7 ∧ ∃ σK1, FK_forgetAll σK = some σK1 ∧ Rel (k + 1) σP σG1 σL σR1 σT2 σC σA σK1 ω ι σ'))
def Sim_fault (Rel : Nat → MS → MS → MS → MS → MS → MS → MS → MS → (Nat → MS) → (Nat → MS) → MS → Prop) : Prop := ∀ (k : Nat) (σP σL σG σR σT σC σA σK : MS) (ω ι : Nat → MS) (σ : MS) , k < 512 → Rel k σP σL σG σR σT σC σA σK ω ι σ → ∃ (r : Int32) (σ' : MS), FP_fault σP = some (r) ∧ FM_fault σ = some (r, σ') ∧ Rel (k + 1) σP σL σG σR σT σC σA σK ω ι σ'
def Sim_pass (Rel : Nat → MS → MS → MS → MS → MS → MS → MS → MS → (Nat → MS) → (Nat → MS) → MS → Prop) : Prop := ∀ (k : Nat) (σP σL σG σR σT σC σA σK : MS) (ω ι : Nat → MS) (σ : MS) (a1 : Int32) (a2 : Int32), k < 512 → Rel k σP σL σG σR σT σC σA σK ω ι σ → ∃ (r : Int32) (σL' : MS) (σK' : MS) (σ' : MS), FP_pass σL σK a1 a2 = some (r, σL', σK') ∧ FM_pass σ a1 a2 = some (r, σ') ∧ Rel (k + 1) σP σL' σG σR σT σC σA σK' ω ι σ'
def Sim_send (Rel : Nat → MS → MS → MS → MS → MS → MS → MS → MS → (Nat → MS) → (Nat → MS) → MS → Prop) : Prop := ∀ (k : Nat) (σP σL σG σR σT σC σA σK : MS) (ω ι : Nat → MS) (σ : MS) (a1 : Int32), k < 512 → Rel k σP σL σG σR σT σC σA σK ω ι σ → ∃ (r : Int32) (σL' : MS) (σK' : MS) (σ' : MS), FP_send σL σK a1 = some (r, σL', σK') ∧ FM_send σ a1 = some (r, σ') ∧ Rel (k + 1) σP σL' σG σR σT σC σA σK' ω ι σ'
def Sim_sendAll (Rel : Nat → MS → MS → MS → MS → MS → MS → MS → MS → (Nat → MS) → (Nat → MS) → MS → Prop) : Prop := ∀ (k : Nat) (σP σL σG σR σT σC σA σK : MS) (ω ι : Nat → MS) (σ : MS) (a1 : Int32) (a2 : Int32) (a3 : Int32), k < 512 → Rel k σP σL σG σR σT σC σA σK ω ι σ → ∃ (r : Int32) (σP' : MS) (σL' : MS) (σK' : MS) (σ' : MS), FP_sendAll σP σL σK ω a1 a2 a3 = some (r, σP', σL', σK') ∧ FM_sendAll σ a1 a2 a3 = some (r, σ') ∧ Rel (k + 1) σP' σL' σG σR σT σC σA σK' ω ι σ'
def Sim_days (Rel : Nat → MS → MS → MS → MS → MS → MS → MS → MS → (Nat → MS) → (Nat → MS) → MS → Prop) : Prop := ∀ (k : Nat) (σP σL σG σR σT σC σA σK : MS) (ω ι : Nat → MS) (σ : MS) (a1 : Int32), k < 512 → Rel k σP σL σG σR σT σC σA σK ω ι σ → ∃ (r : Int32) (σL' : MS) (σK' : MS) (σ' : MS), FP_days σL σK a1 = some (r, σL', σK') ∧ FM_days σ a1 = some (r, σ') ∧ Rel (k + 1) σP σL' σG σR σT σC σA σK' ω ι σ'
def Sim_flood (Rel : Nat → MS → MS → MS → MS → MS → MS → MS → MS → (Nat → MS) → (Nat → MS) → MS → Prop) : Prop := ∀ (k : Nat) (σP σL σG σR σT σC σA σK : MS) (ω ι : Nat → MS) (σ : MS) (a1 : Int32), k < 512 → Rel k σP σL σG σR σT σC σA σK ω ι σ → ∃ (r : Int32) (σL' : MS) (σK' : MS) (σ' : MS), FP_flood σL σK a1 = some (r, σL', σK') ∧ FM_flood σ a1 = some (r, σ') ∧ Rel (k + 1) σP σL' σG σR σT σC σA σK' ω ι σ'
def Sim_undo (Rel : Nat → MS → MS → MS → MS → MS → MS → MS → MS → (Nat → MS) → (Nat → MS) → MS → Prop) : Prop := ∀ (k : Nat) (σP σL σG σR σT σC σA σK : MS) (ω ι : Nat → MS) (σ : MS) , k < 512 → Rel k σP σL σG σR σT σC σA σK ω ι σ → ∃ (r : Int32) (σL' : MS) (σK' : MS) (σ' : MS), FP_undo σL σK = some (r, σL', σK') ∧ FM_undo σ = some (r, σ') ∧ Rel (k + 1) σP σL' σG σR σT σC σA σK' ω ι σ'
def Sim_coin (Rel : Nat → MS → MS → MS → MS → MS → MS → MS → MS → (Nat → MS) → (Nat → MS) → MS → Prop) : Prop := ∀ (k : Nat) (σP σL σG σR σT σC σA σK : MS) (ω ι : Nat → MS) (σ : MS) (a1 : Int32) (a2 : Int32), k < 512 → Rel k σP σL σG σR σT σC σA σK ω ι σ → ∃ (r : Int32) (σ' : MS), FP_coin σL a1 a2 = some (r) ∧ FM_coin σ a1 a2 = some (r, σ') ∧ Rel (k + 1) σP σL σG σR σT σC σA σK ω ι σ'
def Sim_far (Rel : Nat → MS → MS → MS → MS → MS → MS → MS → MS → (Nat → MS) → (Nat → MS) → MS → Prop) : Prop := ∀ (k : Nat) (σP σL σG σR σT σC σA σK : MS) (ω ι : Nat → MS) (σ : MS) (a1 : Int32) (a2 : Int32), k < 512 → Rel k σP σL σG σR σT σC σA σK ω ι σ → ∃ (r : Int32) (σ' : MS), FP_far σL a1 a2 = some (r) ∧ FM_far σ a1 a2 = some (r, σ') ∧ Rel (k + 1) σP σL σG σR σT σC σA σK ω ι σ'
def Sim_late (Rel : Nat → MS → MS → MS → MS → MS → MS → MS → MS → (Nat → MS) → (Nat → MS) → MS → Prop) : Prop := ∀ (k : Nat) (σP σL σG σR σT σC σA σK : MS) (ω ι : Nat → MS) (σ : MS) , k < 512 → Rel k σP σL σG σR σT σC σA σK ω ι σ → ∃ (r : Int32) (σ' : MS), FP_late σL = some (r) ∧ FM_late σ = some (r, σ') ∧ Rel (k + 1) σP σL σG σR σT σC σA σK ω ι σ'
def Sim_mustGo (Rel : Nat → MS → MS → MS → MS → MS → MS → MS → MS → (Nat → MS) → (Nat → MS) → MS → Prop) : Prop := ∀ (k : Nat) (σP σL σG σR σT σC σA σK : MS) (ω ι : Nat → MS) (σ : MS) (a1 : Int32), k < 512 → Rel k σP σL σG σR σT σC σA σK ω ι σ → ∃ (r : Int32) (σ' : MS), FP_mustGo σL a1 = some (r) ∧ FM_mustGo σ a1 = some (r, σ') ∧ Rel (k + 1) σP σL σG σR σT σC σA σK ω ι σ'
def Sim_save (Rel : Nat → MS → MS → MS → MS → MS → MS → MS → MS → (Nat → MS) → (Nat → MS) → MS → Prop) : Prop := ∀ (k : Nat) (σP σL σG σR σT σC σA σK : MS) (ω ι : Nat → MS) (σ : MS) (a1 : Int32), k < 512 → Rel k σP σL σG σR σT σC σA σK ω ι σ → ∃ (r : Int32) (σ' : MS), FP_save σL a1 = some (r) ∧ FM_save σ a1 = some (r, σ') ∧ Rel (k + 1) σP σL σG σR σT σC σA σK ω ι σ'
def Sim_tour (Rel : Nat → MS → MS → MS → MS → MS → MS → MS → MS → (Nat → MS) → (Nat → MS) → MS → Prop) : Prop := ∀ (k : Nat) (σP σL σG σR σT σC σA σK : MS) (ω ι : Nat → MS) (σ : MS) (a1 : Int32) (a2 : Int32), k < 512 → Rel k σP σL σG σR σT σC σA σK ω ι σ → ∃ (r : Int32) (σC' : MS) (σ' : MS), FP_tour σL σC a1 a2 = some (r, σC') ∧ FM_tour σ a1 a2 = some (r, σ') ∧ Rel (k + 1) σP σL σG σR σT σC' σA σK ω ι σ'
def Sim_mint (Rel : Nat → MS → MS → MS → MS → MS → MS → MS → MS → (Nat → MS) → (Nat → MS) → MS → Prop) : Prop := ∀ (k : Nat) (σP σL σG σR σT σC σA σK : MS) (ω ι : Nat → MS) (σ : MS) (a1 : Int32), k < 512 → Rel k σP σL σG σR σT σC σA σK ω ι σ → ∃ (r : Int32) (σ' : MS), FP_mint σL a1 = some (r) ∧ FM_mint σ a1 = some (r, σ') ∧ Rel (k + 1) σP σL σG σR σT σC σA σK ω ι σ'
def Sim_sounds (Rel : Nat → MS → MS → MS → MS → MS → MS → MS → MS → (Nat → MS) → (Nat → MS) → MS → Prop) : Prop := ∀ (k : Nat) (σP σL σG σR σT σC σA σK : MS) (ω ι : Nat → MS) (σ : MS) (a1 : Int32) (a2 : Int32), k < 512 → Rel k σP σL σG σR σT σC σA σK ω ι σ → ∃ (r : Int32) (σ' : MS), FP_sounds σL a1 a2 = some (r) ∧ FM_sounds σ a1 a2 = some (r, σ') ∧ Rel (k + 1) σP σL σG σR σT σC σA σK ω ι σ'
def Sim_ear (Rel : Nat → MS → MS → MS → MS → MS → MS → MS → MS → (Nat → MS) → (Nat → MS) → MS → Prop) : Prop := ∀ (k : Nat) (σP σL σG σR σT σC σA σK : MS) (ω ι : Nat → MS) (σ : MS) (a1 : Int32) (a2 : Int32) (a3 : Int32) (a4 : Int32) (a5 : Int32), k < 512 → Rel k σP σL σG σR σT σC σA σK ω ι σ → ∃ (r : Int32) (σ' : MS), FP_ear a1 a2 a3 a4 a5 = some (r) ∧ FM_ear σ a1 a2 a3 a4 a5 = some (r, σ') ∧ Rel (k + 1) σP σL σG σR σT σC σA σK ω ι σ'
def Sim_image (Rel : Nat → MS → MS → MS → MS → MS → MS → MS → MS → (Nat → MS) → (Nat → MS) → MS → Prop) : Prop := ∀ (k : Nat) (σP σL σG σR σT σC σA σK : MS) (ω ι : Nat → MS) (σ : MS) (a1 : Int32), k < 512 → Rel k σP σL σG σR σT σC σA σK ω ι σ → ∃ (r : Int32) (ι' : (Nat → MS)) (σ' : MS), FP_image σL ι a1 = some (r, ι') ∧ FM_image σ a1 = some (r, σ') ∧ Rel (k + 1) σP σL σG σR σT σC σA σK ω ι' σ'
def Sim_restore (Rel : Nat → MS → MS → MS → MS → MS → MS → MS → MS → (Nat → MS) → (Nat → MS) → MS → Prop) : Prop := ∀ (k : Nat) (σP σL σG σR σT σC σA σK : MS) (ω ι : Nat → MS) (σ : MS) (a1 : Int32), k < 512 → Rel k σP σL σG σR σT σC σA σK ω ι σ → ∃ (r : Int32) (σL' : MS) (σK' : MS) (σ' : MS), FP_restore σL σK ι a1 = some (r, σL', σK') ∧ FM_restore σ a1 = some (r, σ') ∧ Rel (k + 1) σP σL' σG σR σT σC σA σK' ω ι σ'
def Sim_kind (Rel : Nat → MS → MS → MS → MS → MS → MS → MS → MS → (Nat → MS) → (Nat → MS) → MS → Prop) : Prop := ∀ (k : Nat) (σP σL σG σR σT σC σA σK : MS) (ω ι : Nat → MS) (σ : MS) (a1 : Int32), k < 512 → Rel k σP σL σG σR σT σC σA σK ω ι σ → ∃ (r : Int32) (σ' : MS), FP_kind σL a1 = some (r) ∧ FM_kind σ a1 = some (r, σ') ∧ Rel (k + 1) σP σL σG σR σT σC σA σK ω ι σ'
def Sim_as (Rel : Nat → MS → MS → MS → MS → MS → MS → MS → MS → (Nat → MS) → (Nat → MS) → MS → Prop) : Prop := ∀ (k : Nat) (σP σL σG σR σT σC σA σK : MS) (ω ι : Nat → MS) (σ : MS) (a1 : Int32) (a2 : Int32), k < 512 → Rel k σP σL σG σR σT σC σA σK ω ι σ → ∃ (r : Int32) (σP' : MS) (σ' : MS), FP_as σP σL a1 a2 = some (r, σP') ∧ FM_as σ a1 a2 = some (r, σ') ∧ Rel (k + 1) σP' σL σG σR σT σC σA σK ω ι σ'
def Sim_ask (Rel : Nat → MS → MS → MS → MS → MS → MS → MS → MS → (Nat → MS) → (Nat → MS) → MS → Prop) : Prop := ∀ (k : Nat) (σP σL σG σR σT σC σA σK : MS) (ω ι : Nat → MS) (σ : MS) (a1 : Int32) (a2 : Int32), k < 512 → Rel k σP σL σG σR σT σC σA σK ω ι σ → ∃ (r : Int32) (σA' : MS) (σ' : MS), FP_ask σL σA a1 a2 = some (r, σA') ∧ FM_ask σ a1 a2 = some (r, σ') ∧ Rel (k + 1) σP σL σG σR σT σC σA' σK ω ι σ'
def Sim_trace (Rel : Nat → MS → MS → MS → MS → MS → MS → MS → MS → (Nat → MS) → (Nat → MS) → MS → Prop) : Prop := ∀ (k : Nat) (σP σL σG σR σT σC σA σK : MS) (ω ι : Nat → MS) (σ : MS) (a1 : Int32), k < 512 → Rel k σP σL σG σR σT σC σA σK ω ι σ → ∃ (r : Int32) (σ' : MS), FP_trace σA a1 = some (r) ∧ FM_trace σ a1 = some (r, σ') ∧ Rel (k + 1) σP σL σG σR σT σC σA σK ω ι σ'
def Sim_count (Rel : Nat → MS → MS → MS → MS → MS → MS → MS → MS → (Nat → MS) → (Nat → MS) → MS → Prop) : Prop := ∀ (k : Nat) (σP σL σG σR σT σC σA σK : MS) (ω ι : Nat → MS) (σ : MS) (a1 : Int32), k < 512 → Rel k σP σL σG σR σT σC σA σK ω ι σ → ∃ (r : Int32) (σ' : MS), FP_count σL σT σK ω a1 = some (r) ∧ FM_count σ a1 = some (r, σ') ∧ Rel (k + 1) σP σL σG σR σT σC σA σK ω ι σ'
def Sim_status (Rel : Nat → MS → MS → MS → MS → MS → MS → MS → MS → (Nat → MS) → (Nat → MS) → MS → Prop) : Prop := ∀ (k : Nat) (σP σL σG σR σT σC σA σK : MS) (ω ι : Nat → MS) (σ : MS) , k < 512 → Rel k σP σL σG σR σT σC σA σK ω ι σ → ∃ (r : Int32) (σ' : MS), FP_status σP = some (r) ∧ FM_status σ = some (r, σ') ∧ Rel (k + 1) σP σL σG σR σT σC σA σK ω ι σ'
def Sim (Rel : Nat → MS → MS → MS → MS → MS → MS → MS → MS → (Nat → MS) → (Nat → MS) → MS → Prop) : Prop := Sim_row Rel ∧ Sim_set Rel ∧ Sim_copy Rel ∧ Sim_drop Rel ∧ Sim_feed Rel ∧ Sim_realm Rel ∧ Sim_fault Rel ∧ Sim_pass Rel ∧ Sim_send Rel ∧ Sim_sendAll Rel ∧ Sim_days Rel ∧ Sim_flood Rel ∧ Sim_undo Rel ∧ Sim_coin Rel ∧ Sim_far Rel ∧ Sim_late Rel ∧ Sim_mustGo Rel ∧ Sim_save Rel ∧ Sim_tour Rel ∧ Sim_mint Rel ∧ Sim_sounds Rel ∧ Sim_ear Rel ∧ Sim_image Rel ∧ Sim_restore Rel ∧ Sim_kind Rel ∧ Sim_as Rel ∧ Sim_ask Rel ∧ Sim_trace Rel ∧ Sim_count Rel ∧ Sim_status Rel
section KL
variable {p : Program} {l : Launch} {e : Env} {R : Room} {s : State} {m : MethodId} {args : Array Value} {below : List Frame} {meth : Method} {c : Code} {H : Heap} {locs : List Loc} {cells slots : Nat} {Q : State → Prop}
variable {cc : ByteArray} {pc : Nat} {ls : Array Slot} {rest st : List Value} {D : va_G} {A : Nat → Prop} {tys : List (ClassId × FieldType)} {t : Nat → Nat} {Ts ws ws' : List Cond} {own C : String} {index maxL nL fr lo Rf Rl : Nat} {y : MethodName} {bytes : ByteArray} {ret : Option FieldType} {v : Option Value} {wa wb w1 : va_W} {lv : List (Nat × Value)}
theorem kl_go {Av : Array Value} (hr : va_Run p l e R s m args below meth c H locs cells slots 0 0 (F0 m pc ls st) rest (kq v (kB D tys (va_A wb H.size) w1) (va_A wb H.size) Av) (va_A wb H.size)) (hP : va_P D vwCl (wa ++ wb) H) (hD : va_D A (wa ++ wb)) (hS : va_S A s.heap H locs) (hF : ∀ q, va_A wb H.size q → A q)
    (kk : ∀ (H1 : Heap) (locs1 : List Loc), va_P D vwCl (wa ++ w1) H1 → va_D A (wa ++ w1) → va_S A s.heap H1 locs1 → W p l e R s m args below meth c H1 locs1 cells slots Q (F0 m (pc + 3) ls (v.toList ++ rest))) : W p l e R s m args below meth c H locs cells slots Q (F0 m pc ls st) := by
  intro T hT X0
  obtain ⟨v2, st₀, t, T', L, h0, X', hL, e1, e2, ⟨hv, ⟨hP1, hK1, hD1⟩, hz, hk⟩, st⟩ := hr T hT X0
  cases hv
  rw [h0] at hz hk
  have hPD := kj_suf (H1 := T'.heap) hP hD (fun q h1 h2 => by rw [e1]; exact hk q h1 h2) hF (by rw [e1]; exact hP1) hD1
  obtain ⟨t2, a1, b1⟩ := kk T'.heap (locs ++ L) hPD.1 hPD.2
    ⟨Nat.le_trans hS.1 (by rw [e1]; exact hz), fun q h1 h2 => by rw [e1, hk q (Nat.lt_of_lt_of_le h1 hS.1) (fun z => h2 (hF q z))]; exact hS.2.1 q h1 h2, fun q hq => by
      rcases List.mem_append.mp hq with h | h
      · exact hS.2.2 q h
      · exact hF _ (hL q h)⟩ T' rfl X'
  exact ⟨t2, st t2 a1, b1⟩
theorem kl_m {b ci q0 n : Nat} {qq : vw_C} {fs : List Value} (S : CallFix p m c cc nL s args Ts own) (hRf : R.frames = Rf) (hRl : R.locals = Rl) (hK : va_K D vwCl tys s) (hA : ∀ q, s.heap.size ≤ q → A q) (hP : va_P D vwCl (wa ++ wb) H) (hD : va_D A (wa ++ wb)) (hS : va_S A s.heap H locs) (hl : lv_has ls nL lv) (As rest : List Value)
    (hM : KK l D tys y ws fr lo (.ref b :: As) wb v w1) (hT : GoodIn Ts (wsV own index C y ws)) (hw : ws = Cond.code y bytes maxL ret :: ws')
    (hd : y.cls = C ∧ y.cls ≠ "java/lang/invoke/MethodHandle" ∧ y.cls ≠ "java/lang/invoke/VarHandle" ∧ (parseMethodDescriptor y.desc).map (fun d => d.parameters.length) = some n) (hn : As.length = n) (hR : fr + 1 ≤ Rf ∧ 8 + (maxL + 11) + lo ≤ Rl) (hcs : cells ≤ R.cells ∧ slots ≤ R.slots)
    (hc : vwCl[ci]? = some qq) (hqC : qq.1 = C) (he : wb[q0]? = some (b, .inr (ci, fs))) (hstack : st = As.reverse ++ .ref b :: rest) (hst : (rest.map fun v => v.category).sum ≤ 8) (hdg : decode cc pc = .ok (.invokevirtual index, 3))
    (kk : ∀ (H1 : Heap) (locs1 : List Loc), va_P D vwCl (wa ++ w1) H1 → va_D A (wa ++ w1) → va_S A s.heap H1 locs1 → W p l e R s m args below meth c H1 locs1 cells slots Q (F0 m (pc + 3) ls (v.toList ++ rest))) : W p l e R s m args below meth c H locs cells slots Q (F0 m pc ls st) := by
  have hF := kF_suf hA hD hS
  have hPc : va_P D vwCl wb H := fun k q hq => hP (wa.length + k) q (by rw [List.getElem?_append_right (by omega), Nat.add_sub_cancel_left]; exact hq)
  have hDc : va_D (fun _ => True) wb := ⟨fun i j x y hx hy he => by
    have := hD.1 (wa.length + i) (wa.length + j) x y (by rw [List.getElem?_append_right (by omega), Nat.add_sub_cancel_left]; exact hx) (by rw [List.getElem?_append_right (by omega), Nat.add_sub_cancel_left]; exact hy) he
    omega, fun _ _ _ => trivial⟩
  refine kl_go (va_runV (As := As) (rest := rest) S (hM H.size) (cwV n S.2.2.2.2 hT hw rfl rfl hd ⟨by rw [hRf]; exact hR.1, by rw [hRl]; exact hR.2⟩) ⟨fun a U g mk q => ?_, ?_, fun U hU hW => ⟨rfl, by rw [hU], by rw [hU]; exact hPc, va_K.moved hW.alike hK, hDc⟩⟩ rfl hn hl.1 hstack (lv_room hst) hdg hcs) hP hD hS hF kk
  · obtain ⟨q0, q1, qP, qK, qD⟩ := q
    exact ⟨q0, q1, qP, va_K.moved (u := U) (U := U.calling g mk a) (Vm.Alike.refl U.vm) qK, qD⟩
  · rw [← hqC]; exact va_recv hK hPc hc he
theorem kl_c {b ci q0 n : Nat} {qq : vw_C} {fs : List Value} (S : CallFix p m c cc nL s args Ts own) (hRf : R.frames = Rf) (hRl : R.locals = Rl) (hK : va_K D vwCl tys s) (hA : ∀ q, s.heap.size ≤ q → A q) (hZ : ZZ t A s) (hP : va_P D vwCl (wa ++ wb) H) (hD : va_D A (wa ++ wb)) (hS : va_S A s.heap H locs) (hl : lv_has ls nL lv) (As rest : List Value)
    (hM : KZ l D tys t y ws fr lo (.ref b :: As) wa v w1) (hT : GoodIn Ts (wsV own index C y ws)) (hw : ws = Cond.code y bytes maxL ret :: ws')
    (hd : y.cls = C ∧ y.cls ≠ "java/lang/invoke/MethodHandle" ∧ y.cls ≠ "java/lang/invoke/VarHandle" ∧ (parseMethodDescriptor y.desc).map (fun d => d.parameters.length) = some n) (hn : As.length = n) (hR : fr + 1 ≤ Rf ∧ 8 + (maxL + 11) + lo ≤ Rl) (hcs : cells ≤ R.cells ∧ slots ≤ R.slots)
    (hc : vwCl[ci]? = some qq) (hqC : qq.1 = C) (he : wa[q0]? = some (b, .inr (ci, fs))) (hstack : st = As.reverse ++ .ref b :: rest) (hst : (rest.map fun v => v.category).sum ≤ 8) (hdg : decode cc pc = .ok (.invokevirtual index, 3))
    (kk : ∀ (H1 : Heap) (locs1 : List Loc), va_P D vwCl (w1 ++ wb) H1 → va_D A (w1 ++ wb) → va_S A s.heap H1 locs1 → W p l e R s m args below meth c H1 locs1 cells slots Q (F0 m (pc + 3) ls (v.toList ++ rest))) : W p l e R s m args below meth c H locs cells slots Q (F0 m pc ls st) := by
  have hP2 := vp_perm hP List.perm_append_comm
  have hD2 := vd_perm hD List.perm_append_comm
  have hF := kF_suf hA hD2 hS
  have hPc : va_P D vwCl wa H := fun k q hq => hP k q (by rw [List.getElem?_append_left (List.getElem?_eq_some_iff.mp hq).1]; exact hq)
  have hDc : va_D (fun _ => True) wa := ⟨fun i j x y hx hy he => hD.1 i j x y (by rw [List.getElem?_append_left (List.getElem?_eq_some_iff.mp hx).1]; exact hx) (by rw [List.getElem?_append_left (List.getElem?_eq_some_iff.mp hy).1]; exact hy) he, fun _ _ _ => trivial⟩
  refine kl_go (va_runV (As := As) (rest := rest) S (hM H.size) (cwV n S.2.2.2.2 hT hw rfl rfl hd ⟨by rw [hRf]; exact hR.1, by rw [hRl]; exact hR.2⟩) ⟨fun a U g mk q => ?_, ?_, fun U hU hW => ⟨rfl, by rw [hU], by rw [hU]; exact hPc, va_K.moved hW.alike hK, hDc, hZ.go hS hU hW hF⟩⟩ rfl hn hl.1 hstack (lv_room hst) hdg hcs) hP2 hD2 hS hF (fun H1 locs1 hP1 hD1 hS1 => kk H1 locs1 (vp_perm hP1 List.perm_append_comm) (vd_perm hD1 List.perm_append_comm) hS1)
  · obtain ⟨q0, q1, qP, qK, qD, qZ⟩ := q
    exact ⟨q0, q1, qP, va_K.moved (u := U) (U := U.calling g mk a) (Vm.Alike.refl U.vm) qK, qD, qZ.blind rfl rfl⟩
  · rw [← hqC]; exact va_recv hK hPc hc he
end KL

set_option maxHeartbeats 4000000 in
set_option maxRecDepth 100000 in
theorem law_row (Rel : Nat → MS → MS → MS → MS → MS → MS → MS → MS → (Nat → MS) → (Nat → MS) → MS → Prop) (hsim : Sim_row Rel) {p : Program} {e : Env} {s : State} {m : MethodId} {below : List Frame} {meth : Method} {c : Code} {l : Launch} {b L : Nat} {xs : Nat → Int32} {D : va_G} {cI cB cR cM cJ cZ : ClassId} {t : Nat → Nat} (C0 : lw_At p s m meth c b L xs) (hKC : va_K D vwCl (ctys cI cB cR cM cJ) s) (hKM : va_K D vwCl [(cI, .int), (cZ, .boolean)] s) (hZ : ZZ t (fun q : Nat => s.heap.size ≤ q) s) (i kk : Nat) (hkk : kk < 512) (hi : i + 6 ≤ L) (hL : L ≤ 3072) (uM uP uL uG uR uT uC uA uK : Nat → Nat) (uW uI : Nat → Nat → Nat) (σP σL σG σR σT σC σA σK : MS) (ω ι : Nat → MS) (σ : MS) (ls : Array Slot) (H : Heap) (locs : List Loc) (hnext : ∀ (uP uL uG uR uT uC uA uK : Nat → Nat) (uW uI : Nat → Nat → Nat) (σP σL σG σR σT σC σA σK : MS) (ω ι : Nat → MS) (σ : MS) (ls : Array Slot) (H : Heap) (locs : List Loc), Rel (kk + 1) σP σL σG σR σT σC σA σK ω ι σ → lv_has ls 4 [(0, .ref b), (1, .ref (uP 0)), (2, .ref (uM 0)), (3, .int (nI i))] → va_P D vwCl ((pw uP uL uG uR uT uC uA uK uW uI cI cB cR cM cJ σP σL σG σR σT σC σA σK ω ι) ++ mw uM cI cZ σ) H → va_D (fun q : Nat => s.heap.size ≤ q) ((pw uP uL uG uR uT uC uA uK uW uI cI cB cR cM cJ σP σL σG σR σT σC σA σK ω ι) ++ mw uM cI cZ σ) → va_S (fun q : Nat => s.heap.size ≤ q) s.heap H locs → W p l e room_1 s m #[Value.ref b] below meth c H locs 86 8016 (lw_Z below #[Value.ref b] s) (F0 m 1058 ls [])) (hrel : Rel kk σP σL σG σR σT σC σA σK ω ι σ) (hl : lv_has ls 4 [(0, .ref b), (1, .ref (uP 0)), (2, .ref (uM 0)), (3, .int (nI i))]) (hP : va_P D vwCl ((pw uP uL uG uR uT uC uA uK uW uI cI cB cR cM cJ σP σL σG σR σT σC σA σK ω ι) ++ mw uM cI cZ σ) H) (hD : va_D (fun q : Nat => s.heap.size ≤ q) ((pw uP uL uG uR uT uC uA uK uW uI cI cB cR cM cJ σP σL σG σR σT σC σA σK ω ι) ++ mw uM cI cZ σ)) (hS : va_S (fun q : Nat => s.heap.size ≤ q) s.heap H locs) : W p l e room_1 s m #[Value.ref b] below meth c H locs 86 8016 (lw_Z below #[Value.ref b] s) (F0 m 168 ls []) := by
  obtain ⟨hx, hb, hr, hml, hown, hts, hX, hbl, hlocks, hgv⟩ := id C0
  have S : CallFix p m c cL_law 4 s #[Value.ref b] wsL_law RL := ⟨hx, hb, hml, hown, fun w h => hts w (wsL_law_in w h)⟩
  have hA : ∀ q : Nat, s.heap.size ≤ q → (fun q : Nat => s.heap.size ≤ q) q := fun _ h => h
  have hbA : ¬ (fun q : Nat => s.heap.size ≤ q) b := Nat.not_le.mpr hbl
  have hi1 : vp_in (nI i + 1) L := by rw [show nI i + 1 = nI (i + 1) from nI_add i 1]; exact vp_in_nI (by omega) (by omega)
  have hi2 : vp_in (nI i + 2) L := by rw [show nI i + 2 = nI (i + 2) from nI_add i 2]; exact vp_in_nI (by omega) (by omega)
  have hi3 : vp_in (nI i + 3) L := by rw [show nI i + 3 = nI (i + 3) from nI_add i 3]; exact vp_in_nI (by omega) (by omega)
  obtain ⟨r, σP', ω', σ', h1, h3, hrel'⟩ := hsim kk σP σL σG σR σT σC σA σK ω ι σ (xs (Int32.toNatClampNeg (nI i + 1))) (xs (Int32.toNatClampNeg (nI i + 2))) (xs (Int32.toNatClampNeg (nI i + 3))) hkk hrel
  refine lv_aload_n hx hb dL_law_168 rfl (lv_at hl 1 rfl) ?_
  refine lv_aload_n hx hb dL_law_169 rfl (lv_at hl 0 rfl) ?_
  refine lv_iload_n hx hb dL_law_170 rfl (lv_at hl 3 rfl) ?_
  refine lv_iconst (v := 1) hx hb dL_law_171 (by decide) ?_
  refine lv_iadd hx hb dL_law_172 ?_
  refine va_sld hx hb hX hbl hbA hS hi1 dL_law_173 ?_
  refine lv_aload_n hx hb dL_law_174 rfl (lv_at hl 0 rfl) ?_
  refine lv_iload_n hx hb dL_law_175 rfl (lv_at hl 3 rfl) ?_
  refine lv_iconst (v := 2) hx hb dL_law_176 (by decide) ?_
  refine lv_iadd hx hb dL_law_177 ?_
  refine va_sld hx hb hX hbl hbA hS hi2 dL_law_178 ?_
  refine lv_aload_n hx hb dL_law_179 rfl (lv_at hl 0 rfl) ?_
  refine lv_iload_n hx hb dL_law_180 rfl (lv_at hl 3 rfl) ?_
  refine lv_iconst (v := 3) hx hb dL_law_181 (by decide) ?_
  refine lv_iadd hx hb dL_law_182 ?_
  refine va_sld hx hb hX hbl hbA hS hi3 dL_law_183 ?_
  refine kl_c (ci := 7) (q0 := 0) (n := 3) (Rf := 2048) (Rl := 84000) S rfl rfl hKC hA hZ hP hD hS hl [.int (xs (Int32.toNatClampNeg (nI i + 1))), .int (xs (Int32.toNatClampNeg (nI i + 2))), .int (xs (Int32.toNatClampNeg (nI i + 3)))] [] (kP_row l D uP uL uG uR uT uC uA uK uW uI cI cB cR cM cJ t σP σL σG σR σT σC σA σK ω ι (xs (Int32.toNatClampNeg (nI i + 1))) (xs (Int32.toNatClampNeg (nI i + 2))) (xs (Int32.toNatClampNeg (nI i + 3))) r σP' ω' h1) gL_law_X8_row rfl (by decide +kernel) rfl ⟨by decide, by decide⟩ ⟨by decide, by decide⟩ rfl rfl rfl rfl (Nat.le_of_ble_eq_true rfl) dL_law_184 (fun H locs hP hD hS => ?_)
  refine W.eq (g2 := F0 m 187 ls [.int r]) rfl ?_
  refine lv_aload_n hx hb dL_law_187 rfl (lv_at hl 2 rfl) ?_
  refine lv_aload_n hx hb dL_law_188 rfl (lv_at hl 0 rfl) ?_
  refine lv_iload_n hx hb dL_law_189 rfl (lv_at hl 3 rfl) ?_
  refine lv_iconst (v := 1) hx hb dL_law_190 (by decide) ?_
  refine lv_iadd hx hb dL_law_191 ?_
  refine va_sld hx hb hX hbl hbA hS hi1 dL_law_192 ?_
  refine lv_aload_n hx hb dL_law_193 rfl (lv_at hl 0 rfl) ?_
  refine lv_iload_n hx hb dL_law_194 rfl (lv_at hl 3 rfl) ?_
  refine lv_iconst (v := 2) hx hb dL_law_195 (by decide) ?_
  refine lv_iadd hx hb dL_law_196 ?_
  refine va_sld hx hb hX hbl hbA hS hi2 dL_law_197 ?_
  refine lv_aload_n hx hb dL_law_198 rfl (lv_at hl 0 rfl) ?_
  refine lv_iload_n hx hb dL_law_199 rfl (lv_at hl 3 rfl) ?_
  refine lv_iconst (v := 3) hx hb dL_law_200 (by decide) ?_
  refine lv_iadd hx hb dL_law_201 ?_
  refine va_sld hx hb hX hbl hbA hS hi3 dL_law_202 ?_
  refine kl_m (ci := 8) (q0 := 0) (n := 3) (Rf := 2048) (Rl := 84000) S rfl rfl hKM hA hP hD hS hl [.int (xs (Int32.toNatClampNeg (nI i + 1))), .int (xs (Int32.toNatClampNeg (nI i + 2))), .int (xs (Int32.toNatClampNeg (nI i + 3)))] [.int r] (kM_row l D uM cI cZ σ (xs (Int32.toNatClampNeg (nI i + 1))) (xs (Int32.toNatClampNeg (nI i + 2))) (xs (Int32.toNatClampNeg (nI i + 3))) r σ' h3) gL_law_X9_row rfl (by decide +kernel) rfl ⟨by decide, by decide⟩ ⟨by decide, by decide⟩ rfl rfl rfl rfl (Nat.le_of_ble_eq_true rfl) dL_law_203 (fun H locs hP hD hS => ?_)
  refine W.eq (g2 := F0 m 206 ls [.int r, .int r]) rfl ?_
  refine lv_icmp_eq (tgt := 1058) hx hb dL_law_206 (by decide) (fun _ => ?_) (fun cn => absurd rfl cn)
  exact hnext uP uL uG uR uT uC uA uK uW uI σP' σL σG σR σT σC σA σK ω' ι σ' ls H locs hrel' hl hP hD hS
set_option maxHeartbeats 4000000 in
set_option maxRecDepth 100000 in
theorem law_set (Rel : Nat → MS → MS → MS → MS → MS → MS → MS → MS → (Nat → MS) → (Nat → MS) → MS → Prop) (hsim : Sim_set Rel) {p : Program} {e : Env} {s : State} {m : MethodId} {below : List Frame} {meth : Method} {c : Code} {l : Launch} {b L : Nat} {xs : Nat → Int32} {D : va_G} {cI cB cR cM cJ cZ : ClassId} {t : Nat → Nat} (C0 : lw_At p s m meth c b L xs) (hKC : va_K D vwCl (ctys cI cB cR cM cJ) s) (hKM : va_K D vwCl [(cI, .int), (cZ, .boolean)] s) (hZ : ZZ t (fun q : Nat => s.heap.size ≤ q) s) (i kk : Nat) (hkk : kk < 512) (hi : i + 6 ≤ L) (hL : L ≤ 3072) (uM uP uL uG uR uT uC uA uK : Nat → Nat) (uW uI : Nat → Nat → Nat) (σP σL σG σR σT σC σA σK : MS) (ω ι : Nat → MS) (σ : MS) (ls : Array Slot) (H : Heap) (locs : List Loc) (hnext : ∀ (uP uL uG uR uT uC uA uK : Nat → Nat) (uW uI : Nat → Nat → Nat) (σP σL σG σR σT σC σA σK : MS) (ω ι : Nat → MS) (σ : MS) (ls : Array Slot) (H : Heap) (locs : List Loc), Rel (kk + 1) σP σL σG σR σT σC σA σK ω ι σ → lv_has ls 4 [(0, .ref b), (1, .ref (uP 0)), (2, .ref (uM 0)), (3, .int (nI i))] → va_P D vwCl ((pw uP uL uG uR uT uC uA uK uW uI cI cB cR cM cJ σP σL σG σR σT σC σA σK ω ι) ++ mw uM cI cZ σ) H → va_D (fun q : Nat => s.heap.size ≤ q) ((pw uP uL uG uR uT uC uA uK uW uI cI cB cR cM cJ σP σL σG σR σT σC σA σK ω ι) ++ mw uM cI cZ σ) → va_S (fun q : Nat => s.heap.size ≤ q) s.heap H locs → W p l e room_1 s m #[Value.ref b] below meth c H locs 86 8016 (lw_Z below #[Value.ref b] s) (F0 m 1058 ls [])) (hrel : Rel kk σP σL σG σR σT σC σA σK ω ι σ) (hl : lv_has ls 4 [(0, .ref b), (1, .ref (uP 0)), (2, .ref (uM 0)), (3, .int (nI i))]) (hP : va_P D vwCl ((pw uP uL uG uR uT uC uA uK uW uI cI cB cR cM cJ σP σL σG σR σT σC σA σK ω ι) ++ mw uM cI cZ σ) H) (hD : va_D (fun q : Nat => s.heap.size ≤ q) ((pw uP uL uG uR uT uC uA uK uW uI cI cB cR cM cJ σP σL σG σR σT σC σA σK ω ι) ++ mw uM cI cZ σ)) (hS : va_S (fun q : Nat => s.heap.size ≤ q) s.heap H locs) : W p l e room_1 s m #[Value.ref b] below meth c H locs 86 8016 (lw_Z below #[Value.ref b] s) (F0 m 211 ls []) := by
  obtain ⟨hx, hb, hr, hml, hown, hts, hX, hbl, hlocks, hgv⟩ := id C0
  have S : CallFix p m c cL_law 4 s #[Value.ref b] wsL_law RL := ⟨hx, hb, hml, hown, fun w h => hts w (wsL_law_in w h)⟩
  have hA : ∀ q : Nat, s.heap.size ≤ q → (fun q : Nat => s.heap.size ≤ q) q := fun _ h => h
  have hbA : ¬ (fun q : Nat => s.heap.size ≤ q) b := Nat.not_le.mpr hbl
  have hi1 : vp_in (nI i + 1) L := by rw [show nI i + 1 = nI (i + 1) from nI_add i 1]; exact vp_in_nI (by omega) (by omega)
  have hi2 : vp_in (nI i + 2) L := by rw [show nI i + 2 = nI (i + 2) from nI_add i 2]; exact vp_in_nI (by omega) (by omega)
  have hi3 : vp_in (nI i + 3) L := by rw [show nI i + 3 = nI (i + 3) from nI_add i 3]; exact vp_in_nI (by omega) (by omega)
  obtain ⟨r, σP', ω', σ', h1, h3, hrel'⟩ := hsim kk σP σL σG σR σT σC σA σK ω ι σ (xs (Int32.toNatClampNeg (nI i + 1))) (xs (Int32.toNatClampNeg (nI i + 2))) (xs (Int32.toNatClampNeg (nI i + 3))) hkk hrel
  refine lv_aload_n hx hb dL_law_211 rfl (lv_at hl 1 rfl) ?_
  refine lv_aload_n hx hb dL_law_212 rfl (lv_at hl 0 rfl) ?_
  refine lv_iload_n hx hb dL_law_213 rfl (lv_at hl 3 rfl) ?_
  refine lv_iconst (v := 1) hx hb dL_law_214 (by decide) ?_
  refine lv_iadd hx hb dL_law_215 ?_
  refine va_sld hx hb hX hbl hbA hS hi1 dL_law_216 ?_
  refine lv_aload_n hx hb dL_law_217 rfl (lv_at hl 0 rfl) ?_
  refine lv_iload_n hx hb dL_law_218 rfl (lv_at hl 3 rfl) ?_
  refine lv_iconst (v := 2) hx hb dL_law_219 (by decide) ?_
  refine lv_iadd hx hb dL_law_220 ?_
  refine va_sld hx hb hX hbl hbA hS hi2 dL_law_221 ?_
  refine lv_aload_n hx hb dL_law_222 rfl (lv_at hl 0 rfl) ?_
  refine lv_iload_n hx hb dL_law_223 rfl (lv_at hl 3 rfl) ?_
  refine lv_iconst (v := 3) hx hb dL_law_224 (by decide) ?_
  refine lv_iadd hx hb dL_law_225 ?_
  refine va_sld hx hb hX hbl hbA hS hi3 dL_law_226 ?_
  refine kl_c (ci := 7) (q0 := 0) (n := 3) (Rf := 2048) (Rl := 84000) S rfl rfl hKC hA hZ hP hD hS hl [.int (xs (Int32.toNatClampNeg (nI i + 1))), .int (xs (Int32.toNatClampNeg (nI i + 2))), .int (xs (Int32.toNatClampNeg (nI i + 3)))] [] (kP_set l D uP uL uG uR uT uC uA uK uW uI cI cB cR cM cJ t σP σL σG σR σT σC σA σK ω ι (xs (Int32.toNatClampNeg (nI i + 1))) (xs (Int32.toNatClampNeg (nI i + 2))) (xs (Int32.toNatClampNeg (nI i + 3))) r σP' ω' h1) gL_law_X8_set rfl (by decide +kernel) rfl ⟨by decide, by decide⟩ ⟨by decide, by decide⟩ rfl rfl rfl rfl (Nat.le_of_ble_eq_true rfl) dL_law_227 (fun H locs hP hD hS => ?_)
  refine W.eq (g2 := F0 m 230 ls [.int r]) rfl ?_
  refine lv_aload_n hx hb dL_law_230 rfl (lv_at hl 2 rfl) ?_
  refine lv_aload_n hx hb dL_law_231 rfl (lv_at hl 0 rfl) ?_
  refine lv_iload_n hx hb dL_law_232 rfl (lv_at hl 3 rfl) ?_
  refine lv_iconst (v := 1) hx hb dL_law_233 (by decide) ?_
  refine lv_iadd hx hb dL_law_234 ?_
  refine va_sld hx hb hX hbl hbA hS hi1 dL_law_235 ?_
  refine lv_aload_n hx hb dL_law_236 rfl (lv_at hl 0 rfl) ?_
  refine lv_iload_n hx hb dL_law_237 rfl (lv_at hl 3 rfl) ?_
  refine lv_iconst (v := 2) hx hb dL_law_238 (by decide) ?_
  refine lv_iadd hx hb dL_law_239 ?_
  refine va_sld hx hb hX hbl hbA hS hi2 dL_law_240 ?_
  refine lv_aload_n hx hb dL_law_241 rfl (lv_at hl 0 rfl) ?_
  refine lv_iload_n hx hb dL_law_242 rfl (lv_at hl 3 rfl) ?_
  refine lv_iconst (v := 3) hx hb dL_law_243 (by decide) ?_
  refine lv_iadd hx hb dL_law_244 ?_
  refine va_sld hx hb hX hbl hbA hS hi3 dL_law_245 ?_
  refine kl_m (ci := 8) (q0 := 0) (n := 3) (Rf := 2048) (Rl := 84000) S rfl rfl hKM hA hP hD hS hl [.int (xs (Int32.toNatClampNeg (nI i + 1))), .int (xs (Int32.toNatClampNeg (nI i + 2))), .int (xs (Int32.toNatClampNeg (nI i + 3)))] [.int r] (kM_set l D uM cI cZ σ (xs (Int32.toNatClampNeg (nI i + 1))) (xs (Int32.toNatClampNeg (nI i + 2))) (xs (Int32.toNatClampNeg (nI i + 3))) r σ' h3) gL_law_X9_set rfl (by decide +kernel) rfl ⟨by decide, by decide⟩ ⟨by decide, by decide⟩ rfl rfl rfl rfl (Nat.le_of_ble_eq_true rfl) dL_law_246 (fun H locs hP hD hS => ?_)
  refine W.eq (g2 := F0 m 249 ls [.int r, .int r]) rfl ?_
  refine lv_icmp_eq (tgt := 1058) hx hb dL_law_249 (by decide) (fun _ => ?_) (fun cn => absurd rfl cn)
  exact hnext uP uL uG uR uT uC uA uK uW uI σP' σL σG σR σT σC σA σK ω' ι σ' ls H locs hrel' hl hP hD hS
set_option maxHeartbeats 4000000 in
set_option maxRecDepth 100000 in
theorem law_copy (Rel : Nat → MS → MS → MS → MS → MS → MS → MS → MS → (Nat → MS) → (Nat → MS) → MS → Prop) (hsim : Sim_copy Rel) {p : Program} {e : Env} {s : State} {m : MethodId} {below : List Frame} {meth : Method} {c : Code} {l : Launch} {b L : Nat} {xs : Nat → Int32} {D : va_G} {cI cB cR cM cJ cZ : ClassId} {t : Nat → Nat} (C0 : lw_At p s m meth c b L xs) (hKC : va_K D vwCl (ctys cI cB cR cM cJ) s) (hKM : va_K D vwCl [(cI, .int), (cZ, .boolean)] s) (hZ : ZZ t (fun q : Nat => s.heap.size ≤ q) s) (i kk : Nat) (hkk : kk < 512) (hi : i + 6 ≤ L) (hL : L ≤ 3072) (uM uP uL uG uR uT uC uA uK : Nat → Nat) (uW uI : Nat → Nat → Nat) (σP σL σG σR σT σC σA σK : MS) (ω ι : Nat → MS) (σ : MS) (ls : Array Slot) (H : Heap) (locs : List Loc) (hnext : ∀ (uP uL uG uR uT uC uA uK : Nat → Nat) (uW uI : Nat → Nat → Nat) (σP σL σG σR σT σC σA σK : MS) (ω ι : Nat → MS) (σ : MS) (ls : Array Slot) (H : Heap) (locs : List Loc), Rel (kk + 1) σP σL σG σR σT σC σA σK ω ι σ → lv_has ls 4 [(0, .ref b), (1, .ref (uP 0)), (2, .ref (uM 0)), (3, .int (nI i))] → va_P D vwCl ((pw uP uL uG uR uT uC uA uK uW uI cI cB cR cM cJ σP σL σG σR σT σC σA σK ω ι) ++ mw uM cI cZ σ) H → va_D (fun q : Nat => s.heap.size ≤ q) ((pw uP uL uG uR uT uC uA uK uW uI cI cB cR cM cJ σP σL σG σR σT σC σA σK ω ι) ++ mw uM cI cZ σ) → va_S (fun q : Nat => s.heap.size ≤ q) s.heap H locs → W p l e room_1 s m #[Value.ref b] below meth c H locs 86 8016 (lw_Z below #[Value.ref b] s) (F0 m 1058 ls [])) (hrel : Rel kk σP σL σG σR σT σC σA σK ω ι σ) (hl : lv_has ls 4 [(0, .ref b), (1, .ref (uP 0)), (2, .ref (uM 0)), (3, .int (nI i))]) (hP : va_P D vwCl ((pw uP uL uG uR uT uC uA uK uW uI cI cB cR cM cJ σP σL σG σR σT σC σA σK ω ι) ++ mw uM cI cZ σ) H) (hD : va_D (fun q : Nat => s.heap.size ≤ q) ((pw uP uL uG uR uT uC uA uK uW uI cI cB cR cM cJ σP σL σG σR σT σC σA σK ω ι) ++ mw uM cI cZ σ)) (hS : va_S (fun q : Nat => s.heap.size ≤ q) s.heap H locs) : W p l e room_1 s m #[Value.ref b] below meth c H locs 86 8016 (lw_Z below #[Value.ref b] s) (F0 m 254 ls []) := by
  obtain ⟨hx, hb, hr, hml, hown, hts, hX, hbl, hlocks, hgv⟩ := id C0
  have S : CallFix p m c cL_law 4 s #[Value.ref b] wsL_law RL := ⟨hx, hb, hml, hown, fun w h => hts w (wsL_law_in w h)⟩
  have hA : ∀ q : Nat, s.heap.size ≤ q → (fun q : Nat => s.heap.size ≤ q) q := fun _ h => h
  have hbA : ¬ (fun q : Nat => s.heap.size ≤ q) b := Nat.not_le.mpr hbl
  have hi1 : vp_in (nI i + 1) L := by rw [show nI i + 1 = nI (i + 1) from nI_add i 1]; exact vp_in_nI (by omega) (by omega)
  have hi2 : vp_in (nI i + 2) L := by rw [show nI i + 2 = nI (i + 2) from nI_add i 2]; exact vp_in_nI (by omega) (by omega)
  have hi3 : vp_in (nI i + 3) L := by rw [show nI i + 3 = nI (i + 3) from nI_add i 3]; exact vp_in_nI (by omega) (by omega)
  have hi4 : vp_in (nI i + 4) L := by rw [show nI i + 4 = nI (i + 4) from nI_add i 4]; exact vp_in_nI (by omega) (by omega)
  have hi5 : vp_in (nI i + 5) L := by rw [show nI i + 5 = nI (i + 5) from nI_add i 5]; exact vp_in_nI (by omega) (by omega)
  obtain ⟨r, σP', ω', σ', h1, h3, hrel'⟩ := hsim kk σP σL σG σR σT σC σA σK ω ι σ (xs (Int32.toNatClampNeg (nI i + 1))) (xs (Int32.toNatClampNeg (nI i + 2))) (xs (Int32.toNatClampNeg (nI i + 3))) (xs (Int32.toNatClampNeg (nI i + 4))) (xs (Int32.toNatClampNeg (nI i + 5))) hkk hrel
  refine lv_aload_n hx hb dL_law_254 rfl (lv_at hl 1 rfl) ?_
  refine lv_aload_n hx hb dL_law_255 rfl (lv_at hl 0 rfl) ?_
  refine lv_iload_n hx hb dL_law_256 rfl (lv_at hl 3 rfl) ?_
  refine lv_iconst (v := 1) hx hb dL_law_257 (by decide) ?_
  refine lv_iadd hx hb dL_law_258 ?_
  refine va_sld hx hb hX hbl hbA hS hi1 dL_law_259 ?_
  refine lv_aload_n hx hb dL_law_260 rfl (lv_at hl 0 rfl) ?_
  refine lv_iload_n hx hb dL_law_261 rfl (lv_at hl 3 rfl) ?_
  refine lv_iconst (v := 2) hx hb dL_law_262 (by decide) ?_
  refine lv_iadd hx hb dL_law_263 ?_
  refine va_sld hx hb hX hbl hbA hS hi2 dL_law_264 ?_
  refine lv_aload_n hx hb dL_law_265 rfl (lv_at hl 0 rfl) ?_
  refine lv_iload_n hx hb dL_law_266 rfl (lv_at hl 3 rfl) ?_
  refine lv_iconst (v := 3) hx hb dL_law_267 (by decide) ?_
  refine lv_iadd hx hb dL_law_268 ?_
  refine va_sld hx hb hX hbl hbA hS hi3 dL_law_269 ?_
  refine lv_aload_n hx hb dL_law_270 rfl (lv_at hl 0 rfl) ?_
  refine lv_iload_n hx hb dL_law_271 rfl (lv_at hl 3 rfl) ?_
  refine lv_iconst (v := 4) hx hb dL_law_272 (by decide) ?_
  refine lv_iadd hx hb dL_law_273 ?_
  refine va_sld hx hb hX hbl hbA hS hi4 dL_law_274 ?_
  refine lv_aload_n hx hb dL_law_275 rfl (lv_at hl 0 rfl) ?_
  refine lv_iload_n hx hb dL_law_276 rfl (lv_at hl 3 rfl) ?_
  refine lv_iconst (v := 5) hx hb dL_law_277 (by decide) ?_
  refine lv_iadd hx hb dL_law_278 ?_
  refine va_sld hx hb hX hbl hbA hS hi5 dL_law_279 ?_
  refine kl_c (ci := 7) (q0 := 0) (n := 5) (Rf := 2048) (Rl := 84000) S rfl rfl hKC hA hZ hP hD hS hl [.int (xs (Int32.toNatClampNeg (nI i + 1))), .int (xs (Int32.toNatClampNeg (nI i + 2))), .int (xs (Int32.toNatClampNeg (nI i + 3))), .int (xs (Int32.toNatClampNeg (nI i + 4))), .int (xs (Int32.toNatClampNeg (nI i + 5)))] [] (kP_copy l D uP uL uG uR uT uC uA uK uW uI cI cB cR cM cJ t σP σL σG σR σT σC σA σK ω ι (xs (Int32.toNatClampNeg (nI i + 1))) (xs (Int32.toNatClampNeg (nI i + 2))) (xs (Int32.toNatClampNeg (nI i + 3))) (xs (Int32.toNatClampNeg (nI i + 4))) (xs (Int32.toNatClampNeg (nI i + 5))) r σP' ω' h1) gL_law_X8_copy rfl (by decide +kernel) rfl ⟨by decide, by decide⟩ ⟨by decide, by decide⟩ rfl rfl rfl rfl (Nat.le_of_ble_eq_true rfl) dL_law_280 (fun H locs hP hD hS => ?_)
  refine W.eq (g2 := F0 m 283 ls [.int r]) rfl ?_
  refine lv_aload_n hx hb dL_law_283 rfl (lv_at hl 2 rfl) ?_
  refine lv_aload_n hx hb dL_law_284 rfl (lv_at hl 0 rfl) ?_
  refine lv_iload_n hx hb dL_law_285 rfl (lv_at hl 3 rfl) ?_
  refine lv_iconst (v := 1) hx hb dL_law_286 (by decide) ?_
  refine lv_iadd hx hb dL_law_287 ?_
  refine va_sld hx hb hX hbl hbA hS hi1 dL_law_288 ?_
  refine lv_aload_n hx hb dL_law_289 rfl (lv_at hl 0 rfl) ?_
  refine lv_iload_n hx hb dL_law_290 rfl (lv_at hl 3 rfl) ?_
  refine lv_iconst (v := 2) hx hb dL_law_291 (by decide) ?_
  refine lv_iadd hx hb dL_law_292 ?_
  refine va_sld hx hb hX hbl hbA hS hi2 dL_law_293 ?_
  refine lv_aload_n hx hb dL_law_294 rfl (lv_at hl 0 rfl) ?_
  refine lv_iload_n hx hb dL_law_295 rfl (lv_at hl 3 rfl) ?_
  refine lv_iconst (v := 3) hx hb dL_law_296 (by decide) ?_
  refine lv_iadd hx hb dL_law_297 ?_
  refine va_sld hx hb hX hbl hbA hS hi3 dL_law_298 ?_
  refine lv_aload_n hx hb dL_law_299 rfl (lv_at hl 0 rfl) ?_
  refine lv_iload_n hx hb dL_law_300 rfl (lv_at hl 3 rfl) ?_
  refine lv_iconst (v := 4) hx hb dL_law_301 (by decide) ?_
  refine lv_iadd hx hb dL_law_302 ?_
  refine va_sld hx hb hX hbl hbA hS hi4 dL_law_303 ?_
  refine lv_aload_n hx hb dL_law_304 rfl (lv_at hl 0 rfl) ?_
  refine lv_iload_n hx hb dL_law_305 rfl (lv_at hl 3 rfl) ?_
  refine lv_iconst (v := 5) hx hb dL_law_306 (by decide) ?_
  refine lv_iadd hx hb dL_law_307 ?_
  refine va_sld hx hb hX hbl hbA hS hi5 dL_law_308 ?_
  refine kl_m (ci := 8) (q0 := 0) (n := 5) (Rf := 2048) (Rl := 84000) S rfl rfl hKM hA hP hD hS hl [.int (xs (Int32.toNatClampNeg (nI i + 1))), .int (xs (Int32.toNatClampNeg (nI i + 2))), .int (xs (Int32.toNatClampNeg (nI i + 3))), .int (xs (Int32.toNatClampNeg (nI i + 4))), .int (xs (Int32.toNatClampNeg (nI i + 5)))] [.int r] (kM_copy l D uM cI cZ σ (xs (Int32.toNatClampNeg (nI i + 1))) (xs (Int32.toNatClampNeg (nI i + 2))) (xs (Int32.toNatClampNeg (nI i + 3))) (xs (Int32.toNatClampNeg (nI i + 4))) (xs (Int32.toNatClampNeg (nI i + 5))) r σ' h3) gL_law_X9_copy rfl (by decide +kernel) rfl ⟨by decide, by decide⟩ ⟨by decide, by decide⟩ rfl rfl rfl rfl (Nat.le_of_ble_eq_true rfl) dL_law_309 (fun H locs hP hD hS => ?_)
  refine W.eq (g2 := F0 m 312 ls [.int r, .int r]) rfl ?_
  refine lv_icmp_eq (tgt := 1058) hx hb dL_law_312 (by decide) (fun _ => ?_) (fun cn => absurd rfl cn)
  exact hnext uP uL uG uR uT uC uA uK uW uI σP' σL σG σR σT σC σA σK ω' ι σ' ls H locs hrel' hl hP hD hS
set_option maxHeartbeats 4000000 in
set_option maxRecDepth 100000 in
theorem law_drop (Rel : Nat → MS → MS → MS → MS → MS → MS → MS → MS → (Nat → MS) → (Nat → MS) → MS → Prop) (hsim : Sim_drop Rel) {p : Program} {e : Env} {s : State} {m : MethodId} {below : List Frame} {meth : Method} {c : Code} {l : Launch} {b L : Nat} {xs : Nat → Int32} {D : va_G} {cI cB cR cM cJ cZ : ClassId} {t : Nat → Nat} (C0 : lw_At p s m meth c b L xs) (hKC : va_K D vwCl (ctys cI cB cR cM cJ) s) (hKM : va_K D vwCl [(cI, .int), (cZ, .boolean)] s) (hZ : ZZ t (fun q : Nat => s.heap.size ≤ q) s) (i kk : Nat) (hkk : kk < 512) (hi : i + 6 ≤ L) (hL : L ≤ 3072) (uM uP uL uG uR uT uC uA uK : Nat → Nat) (uW uI : Nat → Nat → Nat) (σP σL σG σR σT σC σA σK : MS) (ω ι : Nat → MS) (σ : MS) (ls : Array Slot) (H : Heap) (locs : List Loc) (hnext : ∀ (uP uL uG uR uT uC uA uK : Nat → Nat) (uW uI : Nat → Nat → Nat) (σP σL σG σR σT σC σA σK : MS) (ω ι : Nat → MS) (σ : MS) (ls : Array Slot) (H : Heap) (locs : List Loc), Rel (kk + 1) σP σL σG σR σT σC σA σK ω ι σ → lv_has ls 4 [(0, .ref b), (1, .ref (uP 0)), (2, .ref (uM 0)), (3, .int (nI i))] → va_P D vwCl ((pw uP uL uG uR uT uC uA uK uW uI cI cB cR cM cJ σP σL σG σR σT σC σA σK ω ι) ++ mw uM cI cZ σ) H → va_D (fun q : Nat => s.heap.size ≤ q) ((pw uP uL uG uR uT uC uA uK uW uI cI cB cR cM cJ σP σL σG σR σT σC σA σK ω ι) ++ mw uM cI cZ σ) → va_S (fun q : Nat => s.heap.size ≤ q) s.heap H locs → W p l e room_1 s m #[Value.ref b] below meth c H locs 86 8016 (lw_Z below #[Value.ref b] s) (F0 m 1058 ls [])) (hrel : Rel kk σP σL σG σR σT σC σA σK ω ι σ) (hl : lv_has ls 4 [(0, .ref b), (1, .ref (uP 0)), (2, .ref (uM 0)), (3, .int (nI i))]) (hP : va_P D vwCl ((pw uP uL uG uR uT uC uA uK uW uI cI cB cR cM cJ σP σL σG σR σT σC σA σK ω ι) ++ mw uM cI cZ σ) H) (hD : va_D (fun q : Nat => s.heap.size ≤ q) ((pw uP uL uG uR uT uC uA uK uW uI cI cB cR cM cJ σP σL σG σR σT σC σA σK ω ι) ++ mw uM cI cZ σ)) (hS : va_S (fun q : Nat => s.heap.size ≤ q) s.heap H locs) : W p l e room_1 s m #[Value.ref b] below meth c H locs 86 8016 (lw_Z below #[Value.ref b] s) (F0 m 317 ls []) := by
  obtain ⟨hx, hb, hr, hml, hown, hts, hX, hbl, hlocks, hgv⟩ := id C0
  have S : CallFix p m c cL_law 4 s #[Value.ref b] wsL_law RL := ⟨hx, hb, hml, hown, fun w h => hts w (wsL_law_in w h)⟩
  have hA : ∀ q : Nat, s.heap.size ≤ q → (fun q : Nat => s.heap.size ≤ q) q := fun _ h => h
  have hbA : ¬ (fun q : Nat => s.heap.size ≤ q) b := Nat.not_le.mpr hbl
  have hi1 : vp_in (nI i + 1) L := by rw [show nI i + 1 = nI (i + 1) from nI_add i 1]; exact vp_in_nI (by omega) (by omega)
  obtain ⟨r, σP', ω', σ', h1, h3, hrel'⟩ := hsim kk σP σL σG σR σT σC σA σK ω ι σ (xs (Int32.toNatClampNeg (nI i + 1))) hkk hrel
  refine lv_aload_n hx hb dL_law_317 rfl (lv_at hl 1 rfl) ?_
  refine lv_aload_n hx hb dL_law_318 rfl (lv_at hl 0 rfl) ?_
  refine lv_iload_n hx hb dL_law_319 rfl (lv_at hl 3 rfl) ?_
  refine lv_iconst (v := 1) hx hb dL_law_320 (by decide) ?_
  refine lv_iadd hx hb dL_law_321 ?_
  refine va_sld hx hb hX hbl hbA hS hi1 dL_law_322 ?_
  refine kl_c (ci := 7) (q0 := 0) (n := 1) (Rf := 2048) (Rl := 84000) S rfl rfl hKC hA hZ hP hD hS hl [.int (xs (Int32.toNatClampNeg (nI i + 1)))] [] (kP_drop l D uP uL uG uR uT uC uA uK uW uI cI cB cR cM cJ t σP σL σG σR σT σC σA σK ω ι (xs (Int32.toNatClampNeg (nI i + 1))) r σP' ω' h1) gL_law_X8_drop rfl (by decide +kernel) rfl ⟨by decide, by decide⟩ ⟨by decide, by decide⟩ rfl rfl rfl rfl (Nat.le_of_ble_eq_true rfl) dL_law_323 (fun H locs hP hD hS => ?_)
  refine W.eq (g2 := F0 m 326 ls [.int r]) rfl ?_
  refine lv_aload_n hx hb dL_law_326 rfl (lv_at hl 2 rfl) ?_
  refine lv_aload_n hx hb dL_law_327 rfl (lv_at hl 0 rfl) ?_
  refine lv_iload_n hx hb dL_law_328 rfl (lv_at hl 3 rfl) ?_
  refine lv_iconst (v := 1) hx hb dL_law_329 (by decide) ?_
  refine lv_iadd hx hb dL_law_330 ?_
  refine va_sld hx hb hX hbl hbA hS hi1 dL_law_331 ?_
  refine kl_m (ci := 8) (q0 := 0) (n := 1) (Rf := 2048) (Rl := 84000) S rfl rfl hKM hA hP hD hS hl [.int (xs (Int32.toNatClampNeg (nI i + 1)))] [.int r] (kM_drop l D uM cI cZ σ (xs (Int32.toNatClampNeg (nI i + 1))) r σ' h3) gL_law_X9_drop rfl (by decide +kernel) rfl ⟨by decide, by decide⟩ ⟨by decide, by decide⟩ rfl rfl rfl rfl (Nat.le_of_ble_eq_true rfl) dL_law_332 (fun H locs hP hD hS => ?_)
  refine W.eq (g2 := F0 m 335 ls [.int r, .int r]) rfl ?_
  refine lv_icmp_eq (tgt := 1058) hx hb dL_law_335 (by decide) (fun _ => ?_) (fun cn => absurd rfl cn)
  exact hnext uP uL uG uR uT uC uA uK uW uI σP' σL σG σR σT σC σA σK ω' ι σ' ls H locs hrel' hl hP hD hS
set_option maxHeartbeats 4000000 in
set_option maxRecDepth 100000 in
theorem law_feed (Rel : Nat → MS → MS → MS → MS → MS → MS → MS → MS → (Nat → MS) → (Nat → MS) → MS → Prop) (hsim : Sim_feed Rel) {p : Program} {e : Env} {s : State} {m : MethodId} {below : List Frame} {meth : Method} {c : Code} {l : Launch} {b L : Nat} {xs : Nat → Int32} {D : va_G} {cI cB cR cM cJ cZ : ClassId} {t : Nat → Nat} (C0 : lw_At p s m meth c b L xs) (hKC : va_K D vwCl (ctys cI cB cR cM cJ) s) (hKM : va_K D vwCl [(cI, .int), (cZ, .boolean)] s) (hZ : ZZ t (fun q : Nat => s.heap.size ≤ q) s) (i kk : Nat) (hkk : kk < 512) (hi : i + 6 ≤ L) (hL : L ≤ 3072) (uM uP uL uG uR uT uC uA uK : Nat → Nat) (uW uI : Nat → Nat → Nat) (σP σL σG σR σT σC σA σK : MS) (ω ι : Nat → MS) (σ : MS) (ls : Array Slot) (H : Heap) (locs : List Loc) (hnext : ∀ (uP uL uG uR uT uC uA uK : Nat → Nat) (uW uI : Nat → Nat → Nat) (σP σL σG σR σT σC σA σK : MS) (ω ι : Nat → MS) (σ : MS) (ls : Array Slot) (H : Heap) (locs : List Loc), Rel (kk + 1) σP σL σG σR σT σC σA σK ω ι σ → lv_has ls 4 [(0, .ref b), (1, .ref (uP 0)), (2, .ref (uM 0)), (3, .int (nI i))] → va_P D vwCl ((pw uP uL uG uR uT uC uA uK uW uI cI cB cR cM cJ σP σL σG σR σT σC σA σK ω ι) ++ mw uM cI cZ σ) H → va_D (fun q : Nat => s.heap.size ≤ q) ((pw uP uL uG uR uT uC uA uK uW uI cI cB cR cM cJ σP σL σG σR σT σC σA σK ω ι) ++ mw uM cI cZ σ) → va_S (fun q : Nat => s.heap.size ≤ q) s.heap H locs → W p l e room_1 s m #[Value.ref b] below meth c H locs 86 8016 (lw_Z below #[Value.ref b] s) (F0 m 1058 ls [])) (hrel : Rel kk σP σL σG σR σT σC σA σK ω ι σ) (hl : lv_has ls 4 [(0, .ref b), (1, .ref (uP 0)), (2, .ref (uM 0)), (3, .int (nI i))]) (hP : va_P D vwCl ((pw uP uL uG uR uT uC uA uK uW uI cI cB cR cM cJ σP σL σG σR σT σC σA σK ω ι) ++ mw uM cI cZ σ) H) (hD : va_D (fun q : Nat => s.heap.size ≤ q) ((pw uP uL uG uR uT uC uA uK uW uI cI cB cR cM cJ σP σL σG σR σT σC σA σK ω ι) ++ mw uM cI cZ σ)) (hS : va_S (fun q : Nat => s.heap.size ≤ q) s.heap H locs) : W p l e room_1 s m #[Value.ref b] below meth c H locs 86 8016 (lw_Z below #[Value.ref b] s) (F0 m 340 ls []) := by
  obtain ⟨hx, hb, hr, hml, hown, hts, hX, hbl, hlocks, hgv⟩ := id C0
  have S : CallFix p m c cL_law 4 s #[Value.ref b] wsL_law RL := ⟨hx, hb, hml, hown, fun w h => hts w (wsL_law_in w h)⟩
  have hA : ∀ q : Nat, s.heap.size ≤ q → (fun q : Nat => s.heap.size ≤ q) q := fun _ h => h
  have hbA : ¬ (fun q : Nat => s.heap.size ≤ q) b := Nat.not_le.mpr hbl
  have hi1 : vp_in (nI i + 1) L := by rw [show nI i + 1 = nI (i + 1) from nI_add i 1]; exact vp_in_nI (by omega) (by omega)
  have hi2 : vp_in (nI i + 2) L := by rw [show nI i + 2 = nI (i + 2) from nI_add i 2]; exact vp_in_nI (by omega) (by omega)
  have hi3 : vp_in (nI i + 3) L := by rw [show nI i + 3 = nI (i + 3) from nI_add i 3]; exact vp_in_nI (by omega) (by omega)
  obtain ⟨r, σT', σ', h1, h3, hrel'⟩ := hsim kk σP σL σG σR σT σC σA σK ω ι σ (((Int32.toInt64 (xs (Int32.toNatClampNeg (nI i + 1)))) <<< (Int32.toInt64 32 &&& 63)) ||| ((Int32.toInt64 (xs (Int32.toNatClampNeg (nI i + 2)))) &&& 4294967295)) (xs (Int32.toNatClampNeg (nI i + 3))) hkk hrel
  refine lv_aload_n hx hb dL_law_340 rfl (lv_at hl 1 rfl) ?_
  refine lv_aload_n hx hb dL_law_341 rfl (lv_at hl 0 rfl) ?_
  refine lv_iload_n hx hb dL_law_342 rfl (lv_at hl 3 rfl) ?_
  refine lv_iconst (v := 1) hx hb dL_law_343 (by decide) ?_
  refine lv_iadd hx hb dL_law_344 ?_
  refine va_sld hx hb hX hbl hbA hS hi1 dL_law_345 ?_
  refine lv_i2l hx hb dL_law_346 rfl ?_
  refine lv_bipush (v := 32) hx hb dL_law_347 (by decide) ?_
  refine lv_lshl hx hb dL_law_349 rfl ?_
  refine lv_aload_n hx hb dL_law_350 rfl (lv_at hl 0 rfl) ?_
  refine lv_iload_n hx hb dL_law_351 rfl (lv_at hl 3 rfl) ?_
  refine lv_iconst (v := 2) hx hb dL_law_352 (by decide) ?_
  refine lv_iadd hx hb dL_law_353 ?_
  refine va_sld hx hb hX hbl hbA hS hi2 dL_law_354 ?_
  refine lv_i2l hx hb dL_law_355 rfl ?_
  refine lv_ldc2 (v := 4294967295) hx hb hown (hts (.constantLong RL 32 (4294967295)) (by decide +kernel)) dL_law_356 ?_
  refine lv_land hx hb dL_law_359 ?_
  refine lv_lor hx hb dL_law_360 ?_
  refine lv_aload_n hx hb dL_law_361 rfl (lv_at hl 0 rfl) ?_
  refine lv_iload_n hx hb dL_law_362 rfl (lv_at hl 3 rfl) ?_
  refine lv_iconst (v := 3) hx hb dL_law_363 (by decide) ?_
  refine lv_iadd hx hb dL_law_364 ?_
  refine va_sld hx hb hX hbl hbA hS hi3 dL_law_365 ?_
  refine kl_c (ci := 7) (q0 := 0) (n := 2) (Rf := 2048) (Rl := 84000) S rfl rfl hKC hA hZ hP hD hS hl [.long (((Int32.toInt64 (xs (Int32.toNatClampNeg (nI i + 1)))) <<< (Int32.toInt64 32 &&& 63)) ||| ((Int32.toInt64 (xs (Int32.toNatClampNeg (nI i + 2)))) &&& 4294967295)), .int (xs (Int32.toNatClampNeg (nI i + 3)))] [] (kP_feed l D uP uL uG uR uT uC uA uK uW uI cI cB cR cM cJ t σP σL σG σR σT σC σA σK ω ι (((Int32.toInt64 (xs (Int32.toNatClampNeg (nI i + 1)))) <<< (Int32.toInt64 32 &&& 63)) ||| ((Int32.toInt64 (xs (Int32.toNatClampNeg (nI i + 2)))) &&& 4294967295)) (xs (Int32.toNatClampNeg (nI i + 3))) r σT' h1) gL_law_X8_feed rfl (by decide +kernel) rfl ⟨by decide, by decide⟩ ⟨by decide, by decide⟩ rfl rfl rfl rfl (Nat.le_of_ble_eq_true rfl) dL_law_366 (fun H locs hP hD hS => ?_)
  refine W.eq (g2 := F0 m 369 ls [.int r]) rfl ?_
  refine lv_aload_n hx hb dL_law_369 rfl (lv_at hl 2 rfl) ?_
  refine lv_aload_n hx hb dL_law_370 rfl (lv_at hl 0 rfl) ?_
  refine lv_iload_n hx hb dL_law_371 rfl (lv_at hl 3 rfl) ?_
  refine lv_iconst (v := 1) hx hb dL_law_372 (by decide) ?_
  refine lv_iadd hx hb dL_law_373 ?_
  refine va_sld hx hb hX hbl hbA hS hi1 dL_law_374 ?_
  refine lv_i2l hx hb dL_law_375 rfl ?_
  refine lv_bipush (v := 32) hx hb dL_law_376 (by decide) ?_
  refine lv_lshl hx hb dL_law_378 rfl ?_
  refine lv_aload_n hx hb dL_law_379 rfl (lv_at hl 0 rfl) ?_
  refine lv_iload_n hx hb dL_law_380 rfl (lv_at hl 3 rfl) ?_
  refine lv_iconst (v := 2) hx hb dL_law_381 (by decide) ?_
  refine lv_iadd hx hb dL_law_382 ?_
  refine va_sld hx hb hX hbl hbA hS hi2 dL_law_383 ?_
  refine lv_i2l hx hb dL_law_384 rfl ?_
  refine lv_ldc2 (v := 4294967295) hx hb hown (hts (.constantLong RL 32 (4294967295)) (by decide +kernel)) dL_law_385 ?_
  refine lv_land hx hb dL_law_388 ?_
  refine lv_lor hx hb dL_law_389 ?_
  refine lv_aload_n hx hb dL_law_390 rfl (lv_at hl 0 rfl) ?_
  refine lv_iload_n hx hb dL_law_391 rfl (lv_at hl 3 rfl) ?_
  refine lv_iconst (v := 3) hx hb dL_law_392 (by decide) ?_
  refine lv_iadd hx hb dL_law_393 ?_
  refine va_sld hx hb hX hbl hbA hS hi3 dL_law_394 ?_
  refine kl_m (ci := 8) (q0 := 0) (n := 2) (Rf := 2048) (Rl := 84000) S rfl rfl hKM hA hP hD hS hl [.long (((Int32.toInt64 (xs (Int32.toNatClampNeg (nI i + 1)))) <<< (Int32.toInt64 32 &&& 63)) ||| ((Int32.toInt64 (xs (Int32.toNatClampNeg (nI i + 2)))) &&& 4294967295)), .int (xs (Int32.toNatClampNeg (nI i + 3)))] [.int r] (kM_feed l D uM cI cZ σ (((Int32.toInt64 (xs (Int32.toNatClampNeg (nI i + 1)))) <<< (Int32.toInt64 32 &&& 63)) ||| ((Int32.toInt64 (xs (Int32.toNatClampNeg (nI i + 2)))) &&& 4294967295)) (xs (Int32.toNatClampNeg (nI i + 3))) r σ' h3) gL_law_X9_feed rfl (by decide +kernel) rfl ⟨by decide, by decide⟩ ⟨by decide, by decide⟩ rfl rfl rfl rfl (Nat.le_of_ble_eq_true rfl) dL_law_395 (fun H locs hP hD hS => ?_)
  refine W.eq (g2 := F0 m 398 ls [.int r, .int r]) rfl ?_
  refine lv_icmp_eq (tgt := 1058) hx hb dL_law_398 (by decide) (fun _ => ?_) (fun cn => absurd rfl cn)
  exact hnext uP uL uG uR uT uC uA uK uW uI σP σL σG σR σT' σC σA σK ω ι σ' ls H locs hrel' hl hP hD hS
set_option maxHeartbeats 4000000 in
set_option maxRecDepth 100000 in
theorem law_realm (Rel : Nat → MS → MS → MS → MS → MS → MS → MS → MS → (Nat → MS) → (Nat → MS) → MS → Prop) (hsim : Sim_realm Rel) {p : Program} {e : Env} {s : State} {m : MethodId} {below : List Frame} {meth : Method} {c : Code} {l : Launch} {b L : Nat} {xs : Nat → Int32} {D : va_G} {cI cB cR cM cJ cZ : ClassId} {t : Nat → Nat} (C0 : lw_At p s m meth c b L xs) (hKC : va_K D vwCl (ctys cI cB cR cM cJ) s) (hKM : va_K D vwCl [(cI, .int), (cZ, .boolean)] s) (hZ : ZZ t (fun q : Nat => s.heap.size ≤ q) s) (i kk : Nat) (hkk : kk < 512) (hi : i + 6 ≤ L) (hL : L ≤ 3072) (uM uP uL uG uR uT uC uA uK : Nat → Nat) (uW uI : Nat → Nat → Nat) (σP σL σG σR σT σC σA σK : MS) (ω ι : Nat → MS) (σ : MS) (ls : Array Slot) (H : Heap) (locs : List Loc) (hnext : ∀ (uP uL uG uR uT uC uA uK : Nat → Nat) (uW uI : Nat → Nat → Nat) (σP σL σG σR σT σC σA σK : MS) (ω ι : Nat → MS) (σ : MS) (ls : Array Slot) (H : Heap) (locs : List Loc), Rel (kk + 1) σP σL σG σR σT σC σA σK ω ι σ → lv_has ls 4 [(0, .ref b), (1, .ref (uP 0)), (2, .ref (uM 0)), (3, .int (nI i))] → va_P D vwCl ((pw uP uL uG uR uT uC uA uK uW uI cI cB cR cM cJ σP σL σG σR σT σC σA σK ω ι) ++ mw uM cI cZ σ) H → va_D (fun q : Nat => s.heap.size ≤ q) ((pw uP uL uG uR uT uC uA uK uW uI cI cB cR cM cJ σP σL σG σR σT σC σA σK ω ι) ++ mw uM cI cZ σ) → va_S (fun q : Nat => s.heap.size ≤ q) s.heap H locs → W p l e room_1 s m #[Value.ref b] below meth c H locs 86 8016 (lw_Z below #[Value.ref b] s) (F0 m 1058 ls [])) (hrel : Rel kk σP σL σG σR σT σC σA σK ω ι σ) (hl : lv_has ls 4 [(0, .ref b), (1, .ref (uP 0)), (2, .ref (uM 0)), (3, .int (nI i))]) (hP : va_P D vwCl ((pw uP uL uG uR uT uC uA uK uW uI cI cB cR cM cJ σP σL σG σR σT σC σA σK ω ι) ++ mw uM cI cZ σ) H) (hD : va_D (fun q : Nat => s.heap.size ≤ q) ((pw uP uL uG uR uT uC uA uK uW uI cI cB cR cM cJ σP σL σG σR σT σC σA σK ω ι) ++ mw uM cI cZ σ)) (hS : va_S (fun q : Nat => s.heap.size ≤ q) s.heap H locs) : W p l e room_1 s m #[Value.ref b] below meth c H locs 86 8016 (lw_Z below #[Value.ref b] s) (F0 m 403 ls []) := by
  obtain ⟨hx, hb, hr, hml, hown, hts, hX, hbl, hlocks, hgv⟩ := id C0
  have S : CallFix p m c cL_law 4 s #[Value.ref b] wsL_law RL := ⟨hx, hb, hml, hown, fun w h => hts w (wsL_law_in w h)⟩
  have hA : ∀ q : Nat, s.heap.size ≤ q → (fun q : Nat => s.heap.size ≤ q) q := fun _ h => h
  have hbA : ¬ (fun q : Nat => s.heap.size ≤ q) b := Nat.not_le.mpr hbl
  obtain ⟨rr, σR1, σT1, σG1, σT2, r, σ', h1, h2, h3, hcase⟩ := hsim kk σP σL σG σR σT σC σA σK ω ι σ hkk hrel
  refine lv_aload_n hx hb dL_law_403 rfl (lv_at hl 1 rfl) ?_
  rcases hcase with ⟨hrr, her, hrel'⟩ | ⟨hrr, her, σK1, hfa, hrel'⟩
  · subst hrr
    subst her
    refine kl_c (ci := 7) (q0 := 0) (n := 0) (Rf := 2048) (Rl := 84000) S rfl rfl hKC hA hZ hP hD hS hl [] [] (kP_realmF l D uP uL uG uR uT uC uA uK uW uI cI cB cR cM cJ t σP σL σG σR σT σC σA σK ω ι σR1 σT1 σG1 σT2 h1 h2) gL_law_X8_realm rfl (by decide +kernel) rfl ⟨by decide, by decide⟩ ⟨by decide, by decide⟩ rfl rfl rfl rfl (Nat.le_of_ble_eq_true rfl) dL_law_404 (fun H locs hP hD hS => ?_)
    refine W.eq (g2 := F0 m 407 ls [.int (-1000100 - σR1.1 3)]) rfl ?_
    refine lv_aload_n hx hb dL_law_407 rfl (lv_at hl 2 rfl) ?_
    refine kl_m (ci := 8) (q0 := 0) (n := 0) (Rf := 2048) (Rl := 84000) S rfl rfl hKM hA hP hD hS hl [] [.int (-1000100 - σR1.1 3)] (kM_realm l D uM cI cZ σ (-1000100 - σR1.1 3) σ' h3) gL_law_X9_realm rfl (by decide +kernel) rfl ⟨by decide, by decide⟩ ⟨by decide, by decide⟩ rfl rfl rfl rfl (Nat.le_of_ble_eq_true rfl) dL_law_408 (fun H locs hP hD hS => ?_)
    refine W.eq (g2 := F0 m 411 ls [.int (-1000100 - σR1.1 3), .int (-1000100 - σR1.1 3)]) rfl ?_
    refine lv_icmp_eq (tgt := 1058) hx hb dL_law_411 (by decide) (fun _ => ?_) (fun cn => absurd rfl cn)
    exact hnext uP uL uG uR uT uC uA uK uW uI (setF σP 10 (σR1.1 2)) σL σG1 σR1 σT2 σC σA σK ω ι σ' ls H locs hrel' hl hP hD hS
  · subst her
    refine kl_c (ci := 7) (q0 := 0) (n := 0) (Rf := 2048) (Rl := 84000) S rfl rfl hKC hA hZ hP hD hS hl [] [] (kP_realmT l D uP uL uG uR uT uC uA uK uW uI cI cB cR cM cJ t σP σL σG σR σT σC σA σK ω ι rr σR1 σT1 σG1 σT2 σK1 hrr h1 h2 hfa) gL_law_X8_realm rfl (by decide +kernel) rfl ⟨by decide, by decide⟩ ⟨by decide, by decide⟩ rfl rfl rfl rfl (Nat.le_of_ble_eq_true rfl) dL_law_404 (fun H locs hP hD hS => ?_)
    refine W.eq (g2 := F0 m 407 ls [.int (σG1.1 7)]) rfl ?_
    refine lv_aload_n hx hb dL_law_407 rfl (lv_at hl 2 rfl) ?_
    refine kl_m (ci := 8) (q0 := 0) (n := 0) (Rf := 2048) (Rl := 84000) S rfl rfl hKM hA hP hD hS hl [] [.int (σG1.1 7)] (kM_realm l D uM cI cZ σ (σG1.1 7) σ' h3) gL_law_X9_realm rfl (by decide +kernel) rfl ⟨by decide, by decide⟩ ⟨by decide, by decide⟩ rfl rfl rfl rfl (Nat.le_of_ble_eq_true rfl) dL_law_408 (fun H locs hP hD hS => ?_)
    refine W.eq (g2 := F0 m 411 ls [.int (σG1.1 7), .int (σG1.1 7)]) rfl ?_
    refine lv_icmp_eq (tgt := 1058) hx hb dL_law_411 (by decide) (fun _ => ?_) (fun cn => absurd rfl cn)
    exact hnext uP uG uL uR uT uC uA uK uW uI σP σG1 σL σR1 σT2 σC σA σK1 ω ι σ' ls H locs hrel' hl hP hD hS
set_option maxHeartbeats 4000000 in
set_option maxRecDepth 100000 in
theorem law_fault (Rel : Nat → MS → MS → MS → MS → MS → MS → MS → MS → (Nat → MS) → (Nat → MS) → MS → Prop) (hsim : Sim_fault Rel) {p : Program} {e : Env} {s : State} {m : MethodId} {below : List Frame} {meth : Method} {c : Code} {l : Launch} {b L : Nat} {xs : Nat → Int32} {D : va_G} {cI cB cR cM cJ cZ : ClassId} {t : Nat → Nat} (C0 : lw_At p s m meth c b L xs) (hKC : va_K D vwCl (ctys cI cB cR cM cJ) s) (hKM : va_K D vwCl [(cI, .int), (cZ, .boolean)] s) (hZ : ZZ t (fun q : Nat => s.heap.size ≤ q) s) (i kk : Nat) (hkk : kk < 512) (hi : i + 6 ≤ L) (hL : L ≤ 3072) (uM uP uL uG uR uT uC uA uK : Nat → Nat) (uW uI : Nat → Nat → Nat) (σP σL σG σR σT σC σA σK : MS) (ω ι : Nat → MS) (σ : MS) (ls : Array Slot) (H : Heap) (locs : List Loc) (hnext : ∀ (uP uL uG uR uT uC uA uK : Nat → Nat) (uW uI : Nat → Nat → Nat) (σP σL σG σR σT σC σA σK : MS) (ω ι : Nat → MS) (σ : MS) (ls : Array Slot) (H : Heap) (locs : List Loc), Rel (kk + 1) σP σL σG σR σT σC σA σK ω ι σ → lv_has ls 4 [(0, .ref b), (1, .ref (uP 0)), (2, .ref (uM 0)), (3, .int (nI i))] → va_P D vwCl ((pw uP uL uG uR uT uC uA uK uW uI cI cB cR cM cJ σP σL σG σR σT σC σA σK ω ι) ++ mw uM cI cZ σ) H → va_D (fun q : Nat => s.heap.size ≤ q) ((pw uP uL uG uR uT uC uA uK uW uI cI cB cR cM cJ σP σL σG σR σT σC σA σK ω ι) ++ mw uM cI cZ σ) → va_S (fun q : Nat => s.heap.size ≤ q) s.heap H locs → W p l e room_1 s m #[Value.ref b] below meth c H locs 86 8016 (lw_Z below #[Value.ref b] s) (F0 m 1058 ls [])) (hrel : Rel kk σP σL σG σR σT σC σA σK ω ι σ) (hl : lv_has ls 4 [(0, .ref b), (1, .ref (uP 0)), (2, .ref (uM 0)), (3, .int (nI i))]) (hP : va_P D vwCl ((pw uP uL uG uR uT uC uA uK uW uI cI cB cR cM cJ σP σL σG σR σT σC σA σK ω ι) ++ mw uM cI cZ σ) H) (hD : va_D (fun q : Nat => s.heap.size ≤ q) ((pw uP uL uG uR uT uC uA uK uW uI cI cB cR cM cJ σP σL σG σR σT σC σA σK ω ι) ++ mw uM cI cZ σ)) (hS : va_S (fun q : Nat => s.heap.size ≤ q) s.heap H locs) : W p l e room_1 s m #[Value.ref b] below meth c H locs 86 8016 (lw_Z below #[Value.ref b] s) (F0 m 416 ls []) := by
  obtain ⟨hx, hb, hr, hml, hown, hts, hX, hbl, hlocks, hgv⟩ := id C0
  have S : CallFix p m c cL_law 4 s #[Value.ref b] wsL_law RL := ⟨hx, hb, hml, hown, fun w h => hts w (wsL_law_in w h)⟩
  have hA : ∀ q : Nat, s.heap.size ≤ q → (fun q : Nat => s.heap.size ≤ q) q := fun _ h => h
  have hbA : ¬ (fun q : Nat => s.heap.size ≤ q) b := Nat.not_le.mpr hbl
  obtain ⟨r, σ', h1, h3, hrel'⟩ := hsim kk σP σL σG σR σT σC σA σK ω ι σ hkk hrel
  refine lv_aload_n hx hb dL_law_416 rfl (lv_at hl 1 rfl) ?_
  refine kl_c (ci := 7) (q0 := 0) (n := 0) (Rf := 2048) (Rl := 84000) S rfl rfl hKC hA hZ hP hD hS hl [] [] (kP_fault l D uP uL uG uR uT uC uA uK uW uI cI cB cR cM cJ t σP σL σG σR σT σC σA σK ω ι r h1) gL_law_X8_fault rfl (by decide +kernel) rfl ⟨by decide, by decide⟩ ⟨by decide, by decide⟩ rfl rfl rfl rfl (Nat.le_of_ble_eq_true rfl) dL_law_417 (fun H locs hP hD hS => ?_)
  refine W.eq (g2 := F0 m 420 ls [.int r]) rfl ?_
  refine lv_aload_n hx hb dL_law_420 rfl (lv_at hl 2 rfl) ?_
  refine kl_m (ci := 8) (q0 := 0) (n := 0) (Rf := 2048) (Rl := 84000) S rfl rfl hKM hA hP hD hS hl [] [.int r] (kM_fault l D uM cI cZ σ r σ' h3) gL_law_X9_fault rfl (by decide +kernel) rfl ⟨by decide, by decide⟩ ⟨by decide, by decide⟩ rfl rfl rfl rfl (Nat.le_of_ble_eq_true rfl) dL_law_421 (fun H locs hP hD hS => ?_)
  refine W.eq (g2 := F0 m 424 ls [.int r, .int r]) rfl ?_
  refine lv_icmp_eq (tgt := 1058) hx hb dL_law_424 (by decide) (fun _ => ?_) (fun cn => absurd rfl cn)
  exact hnext uP uL uG uR uT uC uA uK uW uI σP σL σG σR σT σC σA σK ω ι σ' ls H locs hrel' hl hP hD hS
set_option maxHeartbeats 4000000 in
set_option maxRecDepth 100000 in
theorem law_pass (Rel : Nat → MS → MS → MS → MS → MS → MS → MS → MS → (Nat → MS) → (Nat → MS) → MS → Prop) (hsim : Sim_pass Rel) {p : Program} {e : Env} {s : State} {m : MethodId} {below : List Frame} {meth : Method} {c : Code} {l : Launch} {b L : Nat} {xs : Nat → Int32} {D : va_G} {cI cB cR cM cJ cZ : ClassId} {t : Nat → Nat} (C0 : lw_At p s m meth c b L xs) (hKC : va_K D vwCl (ctys cI cB cR cM cJ) s) (hKM : va_K D vwCl [(cI, .int), (cZ, .boolean)] s) (hZ : ZZ t (fun q : Nat => s.heap.size ≤ q) s) (i kk : Nat) (hkk : kk < 512) (hi : i + 6 ≤ L) (hL : L ≤ 3072) (uM uP uL uG uR uT uC uA uK : Nat → Nat) (uW uI : Nat → Nat → Nat) (σP σL σG σR σT σC σA σK : MS) (ω ι : Nat → MS) (σ : MS) (ls : Array Slot) (H : Heap) (locs : List Loc) (hnext : ∀ (uP uL uG uR uT uC uA uK : Nat → Nat) (uW uI : Nat → Nat → Nat) (σP σL σG σR σT σC σA σK : MS) (ω ι : Nat → MS) (σ : MS) (ls : Array Slot) (H : Heap) (locs : List Loc), Rel (kk + 1) σP σL σG σR σT σC σA σK ω ι σ → lv_has ls 4 [(0, .ref b), (1, .ref (uP 0)), (2, .ref (uM 0)), (3, .int (nI i))] → va_P D vwCl ((pw uP uL uG uR uT uC uA uK uW uI cI cB cR cM cJ σP σL σG σR σT σC σA σK ω ι) ++ mw uM cI cZ σ) H → va_D (fun q : Nat => s.heap.size ≤ q) ((pw uP uL uG uR uT uC uA uK uW uI cI cB cR cM cJ σP σL σG σR σT σC σA σK ω ι) ++ mw uM cI cZ σ) → va_S (fun q : Nat => s.heap.size ≤ q) s.heap H locs → W p l e room_1 s m #[Value.ref b] below meth c H locs 86 8016 (lw_Z below #[Value.ref b] s) (F0 m 1058 ls [])) (hrel : Rel kk σP σL σG σR σT σC σA σK ω ι σ) (hl : lv_has ls 4 [(0, .ref b), (1, .ref (uP 0)), (2, .ref (uM 0)), (3, .int (nI i))]) (hP : va_P D vwCl ((pw uP uL uG uR uT uC uA uK uW uI cI cB cR cM cJ σP σL σG σR σT σC σA σK ω ι) ++ mw uM cI cZ σ) H) (hD : va_D (fun q : Nat => s.heap.size ≤ q) ((pw uP uL uG uR uT uC uA uK uW uI cI cB cR cM cJ σP σL σG σR σT σC σA σK ω ι) ++ mw uM cI cZ σ)) (hS : va_S (fun q : Nat => s.heap.size ≤ q) s.heap H locs) : W p l e room_1 s m #[Value.ref b] below meth c H locs 86 8016 (lw_Z below #[Value.ref b] s) (F0 m 429 ls []) := by
  obtain ⟨hx, hb, hr, hml, hown, hts, hX, hbl, hlocks, hgv⟩ := id C0
  have S : CallFix p m c cL_law 4 s #[Value.ref b] wsL_law RL := ⟨hx, hb, hml, hown, fun w h => hts w (wsL_law_in w h)⟩
  have hA : ∀ q : Nat, s.heap.size ≤ q → (fun q : Nat => s.heap.size ≤ q) q := fun _ h => h
  have hbA : ¬ (fun q : Nat => s.heap.size ≤ q) b := Nat.not_le.mpr hbl
  have hi1 : vp_in (nI i + 1) L := by rw [show nI i + 1 = nI (i + 1) from nI_add i 1]; exact vp_in_nI (by omega) (by omega)
  have hi2 : vp_in (nI i + 2) L := by rw [show nI i + 2 = nI (i + 2) from nI_add i 2]; exact vp_in_nI (by omega) (by omega)
  obtain ⟨r, σL', σK', σ', h1, h3, hrel'⟩ := hsim kk σP σL σG σR σT σC σA σK ω ι σ (xs (Int32.toNatClampNeg (nI i + 1))) (xs (Int32.toNatClampNeg (nI i + 2))) hkk hrel
  refine lv_aload_n hx hb dL_law_429 rfl (lv_at hl 1 rfl) ?_
  refine lv_aload_n hx hb dL_law_430 rfl (lv_at hl 0 rfl) ?_
  refine lv_iload_n hx hb dL_law_431 rfl (lv_at hl 3 rfl) ?_
  refine lv_iconst (v := 1) hx hb dL_law_432 (by decide) ?_
  refine lv_iadd hx hb dL_law_433 ?_
  refine va_sld hx hb hX hbl hbA hS hi1 dL_law_434 ?_
  refine lv_aload_n hx hb dL_law_435 rfl (lv_at hl 0 rfl) ?_
  refine lv_iload_n hx hb dL_law_436 rfl (lv_at hl 3 rfl) ?_
  refine lv_iconst (v := 2) hx hb dL_law_437 (by decide) ?_
  refine lv_iadd hx hb dL_law_438 ?_
  refine va_sld hx hb hX hbl hbA hS hi2 dL_law_439 ?_
  refine kl_c (ci := 7) (q0 := 0) (n := 2) (Rf := 2048) (Rl := 84000) S rfl rfl hKC hA hZ hP hD hS hl [.int (xs (Int32.toNatClampNeg (nI i + 1))), .int (xs (Int32.toNatClampNeg (nI i + 2)))] [] (kP_pass l D uP uL uG uR uT uC uA uK uW uI cI cB cR cM cJ t σP σL σG σR σT σC σA σK ω ι (xs (Int32.toNatClampNeg (nI i + 1))) (xs (Int32.toNatClampNeg (nI i + 2))) r σL' σK' h1) gL_law_X8_pass rfl (by decide +kernel) rfl ⟨by decide, by decide⟩ ⟨by decide, by decide⟩ rfl rfl rfl rfl (Nat.le_of_ble_eq_true rfl) dL_law_440 (fun H locs hP hD hS => ?_)
  refine W.eq (g2 := F0 m 443 ls [.int r]) rfl ?_
  refine lv_aload_n hx hb dL_law_443 rfl (lv_at hl 2 rfl) ?_
  refine lv_aload_n hx hb dL_law_444 rfl (lv_at hl 0 rfl) ?_
  refine lv_iload_n hx hb dL_law_445 rfl (lv_at hl 3 rfl) ?_
  refine lv_iconst (v := 1) hx hb dL_law_446 (by decide) ?_
  refine lv_iadd hx hb dL_law_447 ?_
  refine va_sld hx hb hX hbl hbA hS hi1 dL_law_448 ?_
  refine lv_aload_n hx hb dL_law_449 rfl (lv_at hl 0 rfl) ?_
  refine lv_iload_n hx hb dL_law_450 rfl (lv_at hl 3 rfl) ?_
  refine lv_iconst (v := 2) hx hb dL_law_451 (by decide) ?_
  refine lv_iadd hx hb dL_law_452 ?_
  refine va_sld hx hb hX hbl hbA hS hi2 dL_law_453 ?_
  refine kl_m (ci := 8) (q0 := 0) (n := 2) (Rf := 2048) (Rl := 84000) S rfl rfl hKM hA hP hD hS hl [.int (xs (Int32.toNatClampNeg (nI i + 1))), .int (xs (Int32.toNatClampNeg (nI i + 2)))] [.int r] (kM_pass l D uM cI cZ σ (xs (Int32.toNatClampNeg (nI i + 1))) (xs (Int32.toNatClampNeg (nI i + 2))) r σ' h3) gL_law_X9_pass rfl (by decide +kernel) rfl ⟨by decide, by decide⟩ ⟨by decide, by decide⟩ rfl rfl rfl rfl (Nat.le_of_ble_eq_true rfl) dL_law_454 (fun H locs hP hD hS => ?_)
  refine W.eq (g2 := F0 m 457 ls [.int r, .int r]) rfl ?_
  refine lv_icmp_eq (tgt := 1058) hx hb dL_law_457 (by decide) (fun _ => ?_) (fun cn => absurd rfl cn)
  exact hnext uP uL uG uR uT uC uA uK uW uI σP σL' σG σR σT σC σA σK' ω ι σ' ls H locs hrel' hl hP hD hS
set_option maxHeartbeats 4000000 in
set_option maxRecDepth 100000 in
theorem law_send (Rel : Nat → MS → MS → MS → MS → MS → MS → MS → MS → (Nat → MS) → (Nat → MS) → MS → Prop) (hsim : Sim_send Rel) {p : Program} {e : Env} {s : State} {m : MethodId} {below : List Frame} {meth : Method} {c : Code} {l : Launch} {b L : Nat} {xs : Nat → Int32} {D : va_G} {cI cB cR cM cJ cZ : ClassId} {t : Nat → Nat} (C0 : lw_At p s m meth c b L xs) (hKC : va_K D vwCl (ctys cI cB cR cM cJ) s) (hKM : va_K D vwCl [(cI, .int), (cZ, .boolean)] s) (hZ : ZZ t (fun q : Nat => s.heap.size ≤ q) s) (i kk : Nat) (hkk : kk < 512) (hi : i + 6 ≤ L) (hL : L ≤ 3072) (uM uP uL uG uR uT uC uA uK : Nat → Nat) (uW uI : Nat → Nat → Nat) (σP σL σG σR σT σC σA σK : MS) (ω ι : Nat → MS) (σ : MS) (ls : Array Slot) (H : Heap) (locs : List Loc) (hnext : ∀ (uP uL uG uR uT uC uA uK : Nat → Nat) (uW uI : Nat → Nat → Nat) (σP σL σG σR σT σC σA σK : MS) (ω ι : Nat → MS) (σ : MS) (ls : Array Slot) (H : Heap) (locs : List Loc), Rel (kk + 1) σP σL σG σR σT σC σA σK ω ι σ → lv_has ls 4 [(0, .ref b), (1, .ref (uP 0)), (2, .ref (uM 0)), (3, .int (nI i))] → va_P D vwCl ((pw uP uL uG uR uT uC uA uK uW uI cI cB cR cM cJ σP σL σG σR σT σC σA σK ω ι) ++ mw uM cI cZ σ) H → va_D (fun q : Nat => s.heap.size ≤ q) ((pw uP uL uG uR uT uC uA uK uW uI cI cB cR cM cJ σP σL σG σR σT σC σA σK ω ι) ++ mw uM cI cZ σ) → va_S (fun q : Nat => s.heap.size ≤ q) s.heap H locs → W p l e room_1 s m #[Value.ref b] below meth c H locs 86 8016 (lw_Z below #[Value.ref b] s) (F0 m 1058 ls [])) (hrel : Rel kk σP σL σG σR σT σC σA σK ω ι σ) (hl : lv_has ls 4 [(0, .ref b), (1, .ref (uP 0)), (2, .ref (uM 0)), (3, .int (nI i))]) (hP : va_P D vwCl ((pw uP uL uG uR uT uC uA uK uW uI cI cB cR cM cJ σP σL σG σR σT σC σA σK ω ι) ++ mw uM cI cZ σ) H) (hD : va_D (fun q : Nat => s.heap.size ≤ q) ((pw uP uL uG uR uT uC uA uK uW uI cI cB cR cM cJ σP σL σG σR σT σC σA σK ω ι) ++ mw uM cI cZ σ)) (hS : va_S (fun q : Nat => s.heap.size ≤ q) s.heap H locs) : W p l e room_1 s m #[Value.ref b] below meth c H locs 86 8016 (lw_Z below #[Value.ref b] s) (F0 m 462 ls []) := by
  obtain ⟨hx, hb, hr, hml, hown, hts, hX, hbl, hlocks, hgv⟩ := id C0
  have S : CallFix p m c cL_law 4 s #[Value.ref b] wsL_law RL := ⟨hx, hb, hml, hown, fun w h => hts w (wsL_law_in w h)⟩
  have hA : ∀ q : Nat, s.heap.size ≤ q → (fun q : Nat => s.heap.size ≤ q) q := fun _ h => h
  have hbA : ¬ (fun q : Nat => s.heap.size ≤ q) b := Nat.not_le.mpr hbl
  have hi1 : vp_in (nI i + 1) L := by rw [show nI i + 1 = nI (i + 1) from nI_add i 1]; exact vp_in_nI (by omega) (by omega)
  obtain ⟨r, σL', σK', σ', h1, h3, hrel'⟩ := hsim kk σP σL σG σR σT σC σA σK ω ι σ (xs (Int32.toNatClampNeg (nI i + 1))) hkk hrel
  refine lv_aload_n hx hb dL_law_462 rfl (lv_at hl 1 rfl) ?_
  refine lv_aload_n hx hb dL_law_463 rfl (lv_at hl 0 rfl) ?_
  refine lv_iload_n hx hb dL_law_464 rfl (lv_at hl 3 rfl) ?_
  refine lv_iconst (v := 1) hx hb dL_law_465 (by decide) ?_
  refine lv_iadd hx hb dL_law_466 ?_
  refine va_sld hx hb hX hbl hbA hS hi1 dL_law_467 ?_
  refine kl_c (ci := 7) (q0 := 0) (n := 1) (Rf := 2048) (Rl := 84000) S rfl rfl hKC hA hZ hP hD hS hl [.int (xs (Int32.toNatClampNeg (nI i + 1)))] [] (kP_send l D uP uL uG uR uT uC uA uK uW uI cI cB cR cM cJ t σP σL σG σR σT σC σA σK ω ι (xs (Int32.toNatClampNeg (nI i + 1))) r σL' σK' h1) gL_law_X8_send rfl (by decide +kernel) rfl ⟨by decide, by decide⟩ ⟨by decide, by decide⟩ rfl rfl rfl rfl (Nat.le_of_ble_eq_true rfl) dL_law_468 (fun H locs hP hD hS => ?_)
  refine W.eq (g2 := F0 m 471 ls [.int r]) rfl ?_
  refine lv_aload_n hx hb dL_law_471 rfl (lv_at hl 2 rfl) ?_
  refine lv_aload_n hx hb dL_law_472 rfl (lv_at hl 0 rfl) ?_
  refine lv_iload_n hx hb dL_law_473 rfl (lv_at hl 3 rfl) ?_
  refine lv_iconst (v := 1) hx hb dL_law_474 (by decide) ?_
  refine lv_iadd hx hb dL_law_475 ?_
  refine va_sld hx hb hX hbl hbA hS hi1 dL_law_476 ?_
  refine kl_m (ci := 8) (q0 := 0) (n := 1) (Rf := 2048) (Rl := 84000) S rfl rfl hKM hA hP hD hS hl [.int (xs (Int32.toNatClampNeg (nI i + 1)))] [.int r] (kM_send l D uM cI cZ σ (xs (Int32.toNatClampNeg (nI i + 1))) r σ' h3) gL_law_X9_send rfl (by decide +kernel) rfl ⟨by decide, by decide⟩ ⟨by decide, by decide⟩ rfl rfl rfl rfl (Nat.le_of_ble_eq_true rfl) dL_law_477 (fun H locs hP hD hS => ?_)
  refine W.eq (g2 := F0 m 480 ls [.int r, .int r]) rfl ?_
  refine lv_icmp_eq (tgt := 1058) hx hb dL_law_480 (by decide) (fun _ => ?_) (fun cn => absurd rfl cn)
  exact hnext uP uL uG uR uT uC uA uK uW uI σP σL' σG σR σT σC σA σK' ω ι σ' ls H locs hrel' hl hP hD hS
set_option maxHeartbeats 4000000 in
set_option maxRecDepth 100000 in
theorem law_sendAll (Rel : Nat → MS → MS → MS → MS → MS → MS → MS → MS → (Nat → MS) → (Nat → MS) → MS → Prop) (hsim : Sim_sendAll Rel) {p : Program} {e : Env} {s : State} {m : MethodId} {below : List Frame} {meth : Method} {c : Code} {l : Launch} {b L : Nat} {xs : Nat → Int32} {D : va_G} {cI cB cR cM cJ cZ : ClassId} {t : Nat → Nat} (C0 : lw_At p s m meth c b L xs) (hKC : va_K D vwCl (ctys cI cB cR cM cJ) s) (hKM : va_K D vwCl [(cI, .int), (cZ, .boolean)] s) (hZ : ZZ t (fun q : Nat => s.heap.size ≤ q) s) (i kk : Nat) (hkk : kk < 512) (hi : i + 6 ≤ L) (hL : L ≤ 3072) (uM uP uL uG uR uT uC uA uK : Nat → Nat) (uW uI : Nat → Nat → Nat) (σP σL σG σR σT σC σA σK : MS) (ω ι : Nat → MS) (σ : MS) (ls : Array Slot) (H : Heap) (locs : List Loc) (hnext : ∀ (uP uL uG uR uT uC uA uK : Nat → Nat) (uW uI : Nat → Nat → Nat) (σP σL σG σR σT σC σA σK : MS) (ω ι : Nat → MS) (σ : MS) (ls : Array Slot) (H : Heap) (locs : List Loc), Rel (kk + 1) σP σL σG σR σT σC σA σK ω ι σ → lv_has ls 4 [(0, .ref b), (1, .ref (uP 0)), (2, .ref (uM 0)), (3, .int (nI i))] → va_P D vwCl ((pw uP uL uG uR uT uC uA uK uW uI cI cB cR cM cJ σP σL σG σR σT σC σA σK ω ι) ++ mw uM cI cZ σ) H → va_D (fun q : Nat => s.heap.size ≤ q) ((pw uP uL uG uR uT uC uA uK uW uI cI cB cR cM cJ σP σL σG σR σT σC σA σK ω ι) ++ mw uM cI cZ σ) → va_S (fun q : Nat => s.heap.size ≤ q) s.heap H locs → W p l e room_1 s m #[Value.ref b] below meth c H locs 86 8016 (lw_Z below #[Value.ref b] s) (F0 m 1058 ls [])) (hrel : Rel kk σP σL σG σR σT σC σA σK ω ι σ) (hl : lv_has ls 4 [(0, .ref b), (1, .ref (uP 0)), (2, .ref (uM 0)), (3, .int (nI i))]) (hP : va_P D vwCl ((pw uP uL uG uR uT uC uA uK uW uI cI cB cR cM cJ σP σL σG σR σT σC σA σK ω ι) ++ mw uM cI cZ σ) H) (hD : va_D (fun q : Nat => s.heap.size ≤ q) ((pw uP uL uG uR uT uC uA uK uW uI cI cB cR cM cJ σP σL σG σR σT σC σA σK ω ι) ++ mw uM cI cZ σ)) (hS : va_S (fun q : Nat => s.heap.size ≤ q) s.heap H locs) : W p l e room_1 s m #[Value.ref b] below meth c H locs 86 8016 (lw_Z below #[Value.ref b] s) (F0 m 485 ls []) := by
  obtain ⟨hx, hb, hr, hml, hown, hts, hX, hbl, hlocks, hgv⟩ := id C0
  have S : CallFix p m c cL_law 4 s #[Value.ref b] wsL_law RL := ⟨hx, hb, hml, hown, fun w h => hts w (wsL_law_in w h)⟩
  have hA : ∀ q : Nat, s.heap.size ≤ q → (fun q : Nat => s.heap.size ≤ q) q := fun _ h => h
  have hbA : ¬ (fun q : Nat => s.heap.size ≤ q) b := Nat.not_le.mpr hbl
  have hi1 : vp_in (nI i + 1) L := by rw [show nI i + 1 = nI (i + 1) from nI_add i 1]; exact vp_in_nI (by omega) (by omega)
  have hi2 : vp_in (nI i + 2) L := by rw [show nI i + 2 = nI (i + 2) from nI_add i 2]; exact vp_in_nI (by omega) (by omega)
  have hi3 : vp_in (nI i + 3) L := by rw [show nI i + 3 = nI (i + 3) from nI_add i 3]; exact vp_in_nI (by omega) (by omega)
  obtain ⟨r, σP', σL', σK', σ', h1, h3, hrel'⟩ := hsim kk σP σL σG σR σT σC σA σK ω ι σ (xs (Int32.toNatClampNeg (nI i + 1))) (xs (Int32.toNatClampNeg (nI i + 2))) (xs (Int32.toNatClampNeg (nI i + 3))) hkk hrel
  refine lv_aload_n hx hb dL_law_485 rfl (lv_at hl 1 rfl) ?_
  refine lv_aload_n hx hb dL_law_486 rfl (lv_at hl 0 rfl) ?_
  refine lv_iload_n hx hb dL_law_487 rfl (lv_at hl 3 rfl) ?_
  refine lv_iconst (v := 1) hx hb dL_law_488 (by decide) ?_
  refine lv_iadd hx hb dL_law_489 ?_
  refine va_sld hx hb hX hbl hbA hS hi1 dL_law_490 ?_
  refine lv_aload_n hx hb dL_law_491 rfl (lv_at hl 0 rfl) ?_
  refine lv_iload_n hx hb dL_law_492 rfl (lv_at hl 3 rfl) ?_
  refine lv_iconst (v := 2) hx hb dL_law_493 (by decide) ?_
  refine lv_iadd hx hb dL_law_494 ?_
  refine va_sld hx hb hX hbl hbA hS hi2 dL_law_495 ?_
  refine lv_aload_n hx hb dL_law_496 rfl (lv_at hl 0 rfl) ?_
  refine lv_iload_n hx hb dL_law_497 rfl (lv_at hl 3 rfl) ?_
  refine lv_iconst (v := 3) hx hb dL_law_498 (by decide) ?_
  refine lv_iadd hx hb dL_law_499 ?_
  refine va_sld hx hb hX hbl hbA hS hi3 dL_law_500 ?_
  refine kl_c (ci := 7) (q0 := 0) (n := 3) (Rf := 2048) (Rl := 84000) S rfl rfl hKC hA hZ hP hD hS hl [.int (xs (Int32.toNatClampNeg (nI i + 1))), .int (xs (Int32.toNatClampNeg (nI i + 2))), .int (xs (Int32.toNatClampNeg (nI i + 3)))] [] (kP_sendAll l D uP uL uG uR uT uC uA uK uW uI cI cB cR cM cJ t σP σL σG σR σT σC σA σK ω ι (xs (Int32.toNatClampNeg (nI i + 1))) (xs (Int32.toNatClampNeg (nI i + 2))) (xs (Int32.toNatClampNeg (nI i + 3))) r σP' σL' σK' h1) gL_law_X8_sendAll rfl (by decide +kernel) rfl ⟨by decide, by decide⟩ ⟨by decide, by decide⟩ rfl rfl rfl rfl (Nat.le_of_ble_eq_true rfl) dL_law_501 (fun H locs hP hD hS => ?_)
  refine W.eq (g2 := F0 m 504 ls [.int r]) rfl ?_
  refine lv_aload_n hx hb dL_law_504 rfl (lv_at hl 2 rfl) ?_
  refine lv_aload_n hx hb dL_law_505 rfl (lv_at hl 0 rfl) ?_
  refine lv_iload_n hx hb dL_law_506 rfl (lv_at hl 3 rfl) ?_
  refine lv_iconst (v := 1) hx hb dL_law_507 (by decide) ?_
  refine lv_iadd hx hb dL_law_508 ?_
  refine va_sld hx hb hX hbl hbA hS hi1 dL_law_509 ?_
  refine lv_aload_n hx hb dL_law_510 rfl (lv_at hl 0 rfl) ?_
  refine lv_iload_n hx hb dL_law_511 rfl (lv_at hl 3 rfl) ?_
  refine lv_iconst (v := 2) hx hb dL_law_512 (by decide) ?_
  refine lv_iadd hx hb dL_law_513 ?_
  refine va_sld hx hb hX hbl hbA hS hi2 dL_law_514 ?_
  refine lv_aload_n hx hb dL_law_515 rfl (lv_at hl 0 rfl) ?_
  refine lv_iload_n hx hb dL_law_516 rfl (lv_at hl 3 rfl) ?_
  refine lv_iconst (v := 3) hx hb dL_law_517 (by decide) ?_
  refine lv_iadd hx hb dL_law_518 ?_
  refine va_sld hx hb hX hbl hbA hS hi3 dL_law_519 ?_
  refine kl_m (ci := 8) (q0 := 0) (n := 3) (Rf := 2048) (Rl := 84000) S rfl rfl hKM hA hP hD hS hl [.int (xs (Int32.toNatClampNeg (nI i + 1))), .int (xs (Int32.toNatClampNeg (nI i + 2))), .int (xs (Int32.toNatClampNeg (nI i + 3)))] [.int r] (kM_sendAll l D uM cI cZ σ (xs (Int32.toNatClampNeg (nI i + 1))) (xs (Int32.toNatClampNeg (nI i + 2))) (xs (Int32.toNatClampNeg (nI i + 3))) r σ' h3) gL_law_X9_sendAll rfl (by decide +kernel) rfl ⟨by decide, by decide⟩ ⟨by decide, by decide⟩ rfl rfl rfl rfl (Nat.le_of_ble_eq_true rfl) dL_law_520 (fun H locs hP hD hS => ?_)
  refine W.eq (g2 := F0 m 523 ls [.int r, .int r]) rfl ?_
  refine lv_icmp_eq (tgt := 1058) hx hb dL_law_523 (by decide) (fun _ => ?_) (fun cn => absurd rfl cn)
  exact hnext uP uL uG uR uT uC uA uK uW uI σP' σL' σG σR σT σC σA σK' ω ι σ' ls H locs hrel' hl hP hD hS
set_option maxHeartbeats 4000000 in
set_option maxRecDepth 100000 in
theorem law_days (Rel : Nat → MS → MS → MS → MS → MS → MS → MS → MS → (Nat → MS) → (Nat → MS) → MS → Prop) (hsim : Sim_days Rel) {p : Program} {e : Env} {s : State} {m : MethodId} {below : List Frame} {meth : Method} {c : Code} {l : Launch} {b L : Nat} {xs : Nat → Int32} {D : va_G} {cI cB cR cM cJ cZ : ClassId} {t : Nat → Nat} (C0 : lw_At p s m meth c b L xs) (hKC : va_K D vwCl (ctys cI cB cR cM cJ) s) (hKM : va_K D vwCl [(cI, .int), (cZ, .boolean)] s) (hZ : ZZ t (fun q : Nat => s.heap.size ≤ q) s) (i kk : Nat) (hkk : kk < 512) (hi : i + 6 ≤ L) (hL : L ≤ 3072) (uM uP uL uG uR uT uC uA uK : Nat → Nat) (uW uI : Nat → Nat → Nat) (σP σL σG σR σT σC σA σK : MS) (ω ι : Nat → MS) (σ : MS) (ls : Array Slot) (H : Heap) (locs : List Loc) (hnext : ∀ (uP uL uG uR uT uC uA uK : Nat → Nat) (uW uI : Nat → Nat → Nat) (σP σL σG σR σT σC σA σK : MS) (ω ι : Nat → MS) (σ : MS) (ls : Array Slot) (H : Heap) (locs : List Loc), Rel (kk + 1) σP σL σG σR σT σC σA σK ω ι σ → lv_has ls 4 [(0, .ref b), (1, .ref (uP 0)), (2, .ref (uM 0)), (3, .int (nI i))] → va_P D vwCl ((pw uP uL uG uR uT uC uA uK uW uI cI cB cR cM cJ σP σL σG σR σT σC σA σK ω ι) ++ mw uM cI cZ σ) H → va_D (fun q : Nat => s.heap.size ≤ q) ((pw uP uL uG uR uT uC uA uK uW uI cI cB cR cM cJ σP σL σG σR σT σC σA σK ω ι) ++ mw uM cI cZ σ) → va_S (fun q : Nat => s.heap.size ≤ q) s.heap H locs → W p l e room_1 s m #[Value.ref b] below meth c H locs 86 8016 (lw_Z below #[Value.ref b] s) (F0 m 1058 ls [])) (hrel : Rel kk σP σL σG σR σT σC σA σK ω ι σ) (hl : lv_has ls 4 [(0, .ref b), (1, .ref (uP 0)), (2, .ref (uM 0)), (3, .int (nI i))]) (hP : va_P D vwCl ((pw uP uL uG uR uT uC uA uK uW uI cI cB cR cM cJ σP σL σG σR σT σC σA σK ω ι) ++ mw uM cI cZ σ) H) (hD : va_D (fun q : Nat => s.heap.size ≤ q) ((pw uP uL uG uR uT uC uA uK uW uI cI cB cR cM cJ σP σL σG σR σT σC σA σK ω ι) ++ mw uM cI cZ σ)) (hS : va_S (fun q : Nat => s.heap.size ≤ q) s.heap H locs) : W p l e room_1 s m #[Value.ref b] below meth c H locs 86 8016 (lw_Z below #[Value.ref b] s) (F0 m 528 ls []) := by
  obtain ⟨hx, hb, hr, hml, hown, hts, hX, hbl, hlocks, hgv⟩ := id C0
  have S : CallFix p m c cL_law 4 s #[Value.ref b] wsL_law RL := ⟨hx, hb, hml, hown, fun w h => hts w (wsL_law_in w h)⟩
  have hA : ∀ q : Nat, s.heap.size ≤ q → (fun q : Nat => s.heap.size ≤ q) q := fun _ h => h
  have hbA : ¬ (fun q : Nat => s.heap.size ≤ q) b := Nat.not_le.mpr hbl
  have hi1 : vp_in (nI i + 1) L := by rw [show nI i + 1 = nI (i + 1) from nI_add i 1]; exact vp_in_nI (by omega) (by omega)
  obtain ⟨r, σL', σK', σ', h1, h3, hrel'⟩ := hsim kk σP σL σG σR σT σC σA σK ω ι σ (xs (Int32.toNatClampNeg (nI i + 1))) hkk hrel
  refine lv_aload_n hx hb dL_law_528 rfl (lv_at hl 1 rfl) ?_
  refine lv_aload_n hx hb dL_law_529 rfl (lv_at hl 0 rfl) ?_
  refine lv_iload_n hx hb dL_law_530 rfl (lv_at hl 3 rfl) ?_
  refine lv_iconst (v := 1) hx hb dL_law_531 (by decide) ?_
  refine lv_iadd hx hb dL_law_532 ?_
  refine va_sld hx hb hX hbl hbA hS hi1 dL_law_533 ?_
  refine kl_c (ci := 7) (q0 := 0) (n := 1) (Rf := 2048) (Rl := 84000) S rfl rfl hKC hA hZ hP hD hS hl [.int (xs (Int32.toNatClampNeg (nI i + 1)))] [] (kP_days l D uP uL uG uR uT uC uA uK uW uI cI cB cR cM cJ t σP σL σG σR σT σC σA σK ω ι (xs (Int32.toNatClampNeg (nI i + 1))) r σL' σK' h1) gL_law_X8_days rfl (by decide +kernel) rfl ⟨by decide, by decide⟩ ⟨by decide, by decide⟩ rfl rfl rfl rfl (Nat.le_of_ble_eq_true rfl) dL_law_534 (fun H locs hP hD hS => ?_)
  refine W.eq (g2 := F0 m 537 ls [.int r]) rfl ?_
  refine lv_aload_n hx hb dL_law_537 rfl (lv_at hl 2 rfl) ?_
  refine lv_aload_n hx hb dL_law_538 rfl (lv_at hl 0 rfl) ?_
  refine lv_iload_n hx hb dL_law_539 rfl (lv_at hl 3 rfl) ?_
  refine lv_iconst (v := 1) hx hb dL_law_540 (by decide) ?_
  refine lv_iadd hx hb dL_law_541 ?_
  refine va_sld hx hb hX hbl hbA hS hi1 dL_law_542 ?_
  refine kl_m (ci := 8) (q0 := 0) (n := 1) (Rf := 2048) (Rl := 84000) S rfl rfl hKM hA hP hD hS hl [.int (xs (Int32.toNatClampNeg (nI i + 1)))] [.int r] (kM_days l D uM cI cZ σ (xs (Int32.toNatClampNeg (nI i + 1))) r σ' h3) gL_law_X9_days rfl (by decide +kernel) rfl ⟨by decide, by decide⟩ ⟨by decide, by decide⟩ rfl rfl rfl rfl (Nat.le_of_ble_eq_true rfl) dL_law_543 (fun H locs hP hD hS => ?_)
  refine W.eq (g2 := F0 m 546 ls [.int r, .int r]) rfl ?_
  refine lv_icmp_eq (tgt := 1058) hx hb dL_law_546 (by decide) (fun _ => ?_) (fun cn => absurd rfl cn)
  exact hnext uP uL uG uR uT uC uA uK uW uI σP σL' σG σR σT σC σA σK' ω ι σ' ls H locs hrel' hl hP hD hS
set_option maxHeartbeats 4000000 in
set_option maxRecDepth 100000 in
theorem law_flood (Rel : Nat → MS → MS → MS → MS → MS → MS → MS → MS → (Nat → MS) → (Nat → MS) → MS → Prop) (hsim : Sim_flood Rel) {p : Program} {e : Env} {s : State} {m : MethodId} {below : List Frame} {meth : Method} {c : Code} {l : Launch} {b L : Nat} {xs : Nat → Int32} {D : va_G} {cI cB cR cM cJ cZ : ClassId} {t : Nat → Nat} (C0 : lw_At p s m meth c b L xs) (hKC : va_K D vwCl (ctys cI cB cR cM cJ) s) (hKM : va_K D vwCl [(cI, .int), (cZ, .boolean)] s) (hZ : ZZ t (fun q : Nat => s.heap.size ≤ q) s) (i kk : Nat) (hkk : kk < 512) (hi : i + 6 ≤ L) (hL : L ≤ 3072) (uM uP uL uG uR uT uC uA uK : Nat → Nat) (uW uI : Nat → Nat → Nat) (σP σL σG σR σT σC σA σK : MS) (ω ι : Nat → MS) (σ : MS) (ls : Array Slot) (H : Heap) (locs : List Loc) (hnext : ∀ (uP uL uG uR uT uC uA uK : Nat → Nat) (uW uI : Nat → Nat → Nat) (σP σL σG σR σT σC σA σK : MS) (ω ι : Nat → MS) (σ : MS) (ls : Array Slot) (H : Heap) (locs : List Loc), Rel (kk + 1) σP σL σG σR σT σC σA σK ω ι σ → lv_has ls 4 [(0, .ref b), (1, .ref (uP 0)), (2, .ref (uM 0)), (3, .int (nI i))] → va_P D vwCl ((pw uP uL uG uR uT uC uA uK uW uI cI cB cR cM cJ σP σL σG σR σT σC σA σK ω ι) ++ mw uM cI cZ σ) H → va_D (fun q : Nat => s.heap.size ≤ q) ((pw uP uL uG uR uT uC uA uK uW uI cI cB cR cM cJ σP σL σG σR σT σC σA σK ω ι) ++ mw uM cI cZ σ) → va_S (fun q : Nat => s.heap.size ≤ q) s.heap H locs → W p l e room_1 s m #[Value.ref b] below meth c H locs 86 8016 (lw_Z below #[Value.ref b] s) (F0 m 1058 ls [])) (hrel : Rel kk σP σL σG σR σT σC σA σK ω ι σ) (hl : lv_has ls 4 [(0, .ref b), (1, .ref (uP 0)), (2, .ref (uM 0)), (3, .int (nI i))]) (hP : va_P D vwCl ((pw uP uL uG uR uT uC uA uK uW uI cI cB cR cM cJ σP σL σG σR σT σC σA σK ω ι) ++ mw uM cI cZ σ) H) (hD : va_D (fun q : Nat => s.heap.size ≤ q) ((pw uP uL uG uR uT uC uA uK uW uI cI cB cR cM cJ σP σL σG σR σT σC σA σK ω ι) ++ mw uM cI cZ σ)) (hS : va_S (fun q : Nat => s.heap.size ≤ q) s.heap H locs) : W p l e room_1 s m #[Value.ref b] below meth c H locs 86 8016 (lw_Z below #[Value.ref b] s) (F0 m 551 ls []) := by
  obtain ⟨hx, hb, hr, hml, hown, hts, hX, hbl, hlocks, hgv⟩ := id C0
  have S : CallFix p m c cL_law 4 s #[Value.ref b] wsL_law RL := ⟨hx, hb, hml, hown, fun w h => hts w (wsL_law_in w h)⟩
  have hA : ∀ q : Nat, s.heap.size ≤ q → (fun q : Nat => s.heap.size ≤ q) q := fun _ h => h
  have hbA : ¬ (fun q : Nat => s.heap.size ≤ q) b := Nat.not_le.mpr hbl
  have hi1 : vp_in (nI i + 1) L := by rw [show nI i + 1 = nI (i + 1) from nI_add i 1]; exact vp_in_nI (by omega) (by omega)
  obtain ⟨r, σL', σK', σ', h1, h3, hrel'⟩ := hsim kk σP σL σG σR σT σC σA σK ω ι σ (xs (Int32.toNatClampNeg (nI i + 1))) hkk hrel
  refine lv_aload_n hx hb dL_law_551 rfl (lv_at hl 1 rfl) ?_
  refine lv_aload_n hx hb dL_law_552 rfl (lv_at hl 0 rfl) ?_
  refine lv_iload_n hx hb dL_law_553 rfl (lv_at hl 3 rfl) ?_
  refine lv_iconst (v := 1) hx hb dL_law_554 (by decide) ?_
  refine lv_iadd hx hb dL_law_555 ?_
  refine va_sld hx hb hX hbl hbA hS hi1 dL_law_556 ?_
  refine kl_c (ci := 7) (q0 := 0) (n := 1) (Rf := 2048) (Rl := 84000) S rfl rfl hKC hA hZ hP hD hS hl [.int (xs (Int32.toNatClampNeg (nI i + 1)))] [] (kP_flood l D uP uL uG uR uT uC uA uK uW uI cI cB cR cM cJ t σP σL σG σR σT σC σA σK ω ι (xs (Int32.toNatClampNeg (nI i + 1))) r σL' σK' h1) gL_law_X8_flood rfl (by decide +kernel) rfl ⟨by decide, by decide⟩ ⟨by decide, by decide⟩ rfl rfl rfl rfl (Nat.le_of_ble_eq_true rfl) dL_law_557 (fun H locs hP hD hS => ?_)
  refine W.eq (g2 := F0 m 560 ls [.int r]) rfl ?_
  refine lv_aload_n hx hb dL_law_560 rfl (lv_at hl 2 rfl) ?_
  refine lv_aload_n hx hb dL_law_561 rfl (lv_at hl 0 rfl) ?_
  refine lv_iload_n hx hb dL_law_562 rfl (lv_at hl 3 rfl) ?_
  refine lv_iconst (v := 1) hx hb dL_law_563 (by decide) ?_
  refine lv_iadd hx hb dL_law_564 ?_
  refine va_sld hx hb hX hbl hbA hS hi1 dL_law_565 ?_
  refine kl_m (ci := 8) (q0 := 0) (n := 1) (Rf := 2048) (Rl := 84000) S rfl rfl hKM hA hP hD hS hl [.int (xs (Int32.toNatClampNeg (nI i + 1)))] [.int r] (kM_flood l D uM cI cZ σ (xs (Int32.toNatClampNeg (nI i + 1))) r σ' h3) gL_law_X9_flood rfl (by decide +kernel) rfl ⟨by decide, by decide⟩ ⟨by decide, by decide⟩ rfl rfl rfl rfl (Nat.le_of_ble_eq_true rfl) dL_law_566 (fun H locs hP hD hS => ?_)
  refine W.eq (g2 := F0 m 569 ls [.int r, .int r]) rfl ?_
  refine lv_icmp_eq (tgt := 1058) hx hb dL_law_569 (by decide) (fun _ => ?_) (fun cn => absurd rfl cn)
  exact hnext uP uL uG uR uT uC uA uK uW uI σP σL' σG σR σT σC σA σK' ω ι σ' ls H locs hrel' hl hP hD hS
set_option maxHeartbeats 4000000 in
set_option maxRecDepth 100000 in
theorem law_undo (Rel : Nat → MS → MS → MS → MS → MS → MS → MS → MS → (Nat → MS) → (Nat → MS) → MS → Prop) (hsim : Sim_undo Rel) {p : Program} {e : Env} {s : State} {m : MethodId} {below : List Frame} {meth : Method} {c : Code} {l : Launch} {b L : Nat} {xs : Nat → Int32} {D : va_G} {cI cB cR cM cJ cZ : ClassId} {t : Nat → Nat} (C0 : lw_At p s m meth c b L xs) (hKC : va_K D vwCl (ctys cI cB cR cM cJ) s) (hKM : va_K D vwCl [(cI, .int), (cZ, .boolean)] s) (hZ : ZZ t (fun q : Nat => s.heap.size ≤ q) s) (i kk : Nat) (hkk : kk < 512) (hi : i + 6 ≤ L) (hL : L ≤ 3072) (uM uP uL uG uR uT uC uA uK : Nat → Nat) (uW uI : Nat → Nat → Nat) (σP σL σG σR σT σC σA σK : MS) (ω ι : Nat → MS) (σ : MS) (ls : Array Slot) (H : Heap) (locs : List Loc) (hnext : ∀ (uP uL uG uR uT uC uA uK : Nat → Nat) (uW uI : Nat → Nat → Nat) (σP σL σG σR σT σC σA σK : MS) (ω ι : Nat → MS) (σ : MS) (ls : Array Slot) (H : Heap) (locs : List Loc), Rel (kk + 1) σP σL σG σR σT σC σA σK ω ι σ → lv_has ls 4 [(0, .ref b), (1, .ref (uP 0)), (2, .ref (uM 0)), (3, .int (nI i))] → va_P D vwCl ((pw uP uL uG uR uT uC uA uK uW uI cI cB cR cM cJ σP σL σG σR σT σC σA σK ω ι) ++ mw uM cI cZ σ) H → va_D (fun q : Nat => s.heap.size ≤ q) ((pw uP uL uG uR uT uC uA uK uW uI cI cB cR cM cJ σP σL σG σR σT σC σA σK ω ι) ++ mw uM cI cZ σ) → va_S (fun q : Nat => s.heap.size ≤ q) s.heap H locs → W p l e room_1 s m #[Value.ref b] below meth c H locs 86 8016 (lw_Z below #[Value.ref b] s) (F0 m 1058 ls [])) (hrel : Rel kk σP σL σG σR σT σC σA σK ω ι σ) (hl : lv_has ls 4 [(0, .ref b), (1, .ref (uP 0)), (2, .ref (uM 0)), (3, .int (nI i))]) (hP : va_P D vwCl ((pw uP uL uG uR uT uC uA uK uW uI cI cB cR cM cJ σP σL σG σR σT σC σA σK ω ι) ++ mw uM cI cZ σ) H) (hD : va_D (fun q : Nat => s.heap.size ≤ q) ((pw uP uL uG uR uT uC uA uK uW uI cI cB cR cM cJ σP σL σG σR σT σC σA σK ω ι) ++ mw uM cI cZ σ)) (hS : va_S (fun q : Nat => s.heap.size ≤ q) s.heap H locs) : W p l e room_1 s m #[Value.ref b] below meth c H locs 86 8016 (lw_Z below #[Value.ref b] s) (F0 m 574 ls []) := by
  obtain ⟨hx, hb, hr, hml, hown, hts, hX, hbl, hlocks, hgv⟩ := id C0
  have S : CallFix p m c cL_law 4 s #[Value.ref b] wsL_law RL := ⟨hx, hb, hml, hown, fun w h => hts w (wsL_law_in w h)⟩
  have hA : ∀ q : Nat, s.heap.size ≤ q → (fun q : Nat => s.heap.size ≤ q) q := fun _ h => h
  have hbA : ¬ (fun q : Nat => s.heap.size ≤ q) b := Nat.not_le.mpr hbl
  obtain ⟨r, σL', σK', σ', h1, h3, hrel'⟩ := hsim kk σP σL σG σR σT σC σA σK ω ι σ hkk hrel
  refine lv_aload_n hx hb dL_law_574 rfl (lv_at hl 1 rfl) ?_
  refine kl_c (ci := 7) (q0 := 0) (n := 0) (Rf := 2048) (Rl := 84000) S rfl rfl hKC hA hZ hP hD hS hl [] [] (kP_undo l D uP uL uG uR uT uC uA uK uW uI cI cB cR cM cJ t σP σL σG σR σT σC σA σK ω ι r σL' σK' h1) gL_law_X8_undo rfl (by decide +kernel) rfl ⟨by decide, by decide⟩ ⟨by decide, by decide⟩ rfl rfl rfl rfl (Nat.le_of_ble_eq_true rfl) dL_law_575 (fun H locs hP hD hS => ?_)
  refine W.eq (g2 := F0 m 578 ls [.int r]) rfl ?_
  refine lv_aload_n hx hb dL_law_578 rfl (lv_at hl 2 rfl) ?_
  refine kl_m (ci := 8) (q0 := 0) (n := 0) (Rf := 2048) (Rl := 84000) S rfl rfl hKM hA hP hD hS hl [] [.int r] (kM_undo l D uM cI cZ σ r σ' h3) gL_law_X9_undo rfl (by decide +kernel) rfl ⟨by decide, by decide⟩ ⟨by decide, by decide⟩ rfl rfl rfl rfl (Nat.le_of_ble_eq_true rfl) dL_law_579 (fun H locs hP hD hS => ?_)
  refine W.eq (g2 := F0 m 582 ls [.int r, .int r]) rfl ?_
  refine lv_icmp_eq (tgt := 1058) hx hb dL_law_582 (by decide) (fun _ => ?_) (fun cn => absurd rfl cn)
  exact hnext uP uL uG uR uT uC uA uK uW uI σP σL' σG σR σT σC σA σK' ω ι σ' ls H locs hrel' hl hP hD hS
set_option maxHeartbeats 4000000 in
set_option maxRecDepth 100000 in
theorem law_coin (Rel : Nat → MS → MS → MS → MS → MS → MS → MS → MS → (Nat → MS) → (Nat → MS) → MS → Prop) (hsim : Sim_coin Rel) {p : Program} {e : Env} {s : State} {m : MethodId} {below : List Frame} {meth : Method} {c : Code} {l : Launch} {b L : Nat} {xs : Nat → Int32} {D : va_G} {cI cB cR cM cJ cZ : ClassId} {t : Nat → Nat} (C0 : lw_At p s m meth c b L xs) (hKC : va_K D vwCl (ctys cI cB cR cM cJ) s) (hKM : va_K D vwCl [(cI, .int), (cZ, .boolean)] s) (hZ : ZZ t (fun q : Nat => s.heap.size ≤ q) s) (i kk : Nat) (hkk : kk < 512) (hi : i + 6 ≤ L) (hL : L ≤ 3072) (uM uP uL uG uR uT uC uA uK : Nat → Nat) (uW uI : Nat → Nat → Nat) (σP σL σG σR σT σC σA σK : MS) (ω ι : Nat → MS) (σ : MS) (ls : Array Slot) (H : Heap) (locs : List Loc) (hnext : ∀ (uP uL uG uR uT uC uA uK : Nat → Nat) (uW uI : Nat → Nat → Nat) (σP σL σG σR σT σC σA σK : MS) (ω ι : Nat → MS) (σ : MS) (ls : Array Slot) (H : Heap) (locs : List Loc), Rel (kk + 1) σP σL σG σR σT σC σA σK ω ι σ → lv_has ls 4 [(0, .ref b), (1, .ref (uP 0)), (2, .ref (uM 0)), (3, .int (nI i))] → va_P D vwCl ((pw uP uL uG uR uT uC uA uK uW uI cI cB cR cM cJ σP σL σG σR σT σC σA σK ω ι) ++ mw uM cI cZ σ) H → va_D (fun q : Nat => s.heap.size ≤ q) ((pw uP uL uG uR uT uC uA uK uW uI cI cB cR cM cJ σP σL σG σR σT σC σA σK ω ι) ++ mw uM cI cZ σ) → va_S (fun q : Nat => s.heap.size ≤ q) s.heap H locs → W p l e room_1 s m #[Value.ref b] below meth c H locs 86 8016 (lw_Z below #[Value.ref b] s) (F0 m 1058 ls [])) (hrel : Rel kk σP σL σG σR σT σC σA σK ω ι σ) (hl : lv_has ls 4 [(0, .ref b), (1, .ref (uP 0)), (2, .ref (uM 0)), (3, .int (nI i))]) (hP : va_P D vwCl ((pw uP uL uG uR uT uC uA uK uW uI cI cB cR cM cJ σP σL σG σR σT σC σA σK ω ι) ++ mw uM cI cZ σ) H) (hD : va_D (fun q : Nat => s.heap.size ≤ q) ((pw uP uL uG uR uT uC uA uK uW uI cI cB cR cM cJ σP σL σG σR σT σC σA σK ω ι) ++ mw uM cI cZ σ)) (hS : va_S (fun q : Nat => s.heap.size ≤ q) s.heap H locs) : W p l e room_1 s m #[Value.ref b] below meth c H locs 86 8016 (lw_Z below #[Value.ref b] s) (F0 m 587 ls []) := by
  obtain ⟨hx, hb, hr, hml, hown, hts, hX, hbl, hlocks, hgv⟩ := id C0
  have S : CallFix p m c cL_law 4 s #[Value.ref b] wsL_law RL := ⟨hx, hb, hml, hown, fun w h => hts w (wsL_law_in w h)⟩
  have hA : ∀ q : Nat, s.heap.size ≤ q → (fun q : Nat => s.heap.size ≤ q) q := fun _ h => h
  have hbA : ¬ (fun q : Nat => s.heap.size ≤ q) b := Nat.not_le.mpr hbl
  have hi1 : vp_in (nI i + 1) L := by rw [show nI i + 1 = nI (i + 1) from nI_add i 1]; exact vp_in_nI (by omega) (by omega)
  have hi2 : vp_in (nI i + 2) L := by rw [show nI i + 2 = nI (i + 2) from nI_add i 2]; exact vp_in_nI (by omega) (by omega)
  obtain ⟨r, σ', h1, h3, hrel'⟩ := hsim kk σP σL σG σR σT σC σA σK ω ι σ (xs (Int32.toNatClampNeg (nI i + 1))) (xs (Int32.toNatClampNeg (nI i + 2))) hkk hrel
  refine lv_aload_n hx hb dL_law_587 rfl (lv_at hl 1 rfl) ?_
  refine lv_aload_n hx hb dL_law_588 rfl (lv_at hl 0 rfl) ?_
  refine lv_iload_n hx hb dL_law_589 rfl (lv_at hl 3 rfl) ?_
  refine lv_iconst (v := 1) hx hb dL_law_590 (by decide) ?_
  refine lv_iadd hx hb dL_law_591 ?_
  refine va_sld hx hb hX hbl hbA hS hi1 dL_law_592 ?_
  refine lv_aload_n hx hb dL_law_593 rfl (lv_at hl 0 rfl) ?_
  refine lv_iload_n hx hb dL_law_594 rfl (lv_at hl 3 rfl) ?_
  refine lv_iconst (v := 2) hx hb dL_law_595 (by decide) ?_
  refine lv_iadd hx hb dL_law_596 ?_
  refine va_sld hx hb hX hbl hbA hS hi2 dL_law_597 ?_
  refine kl_c (ci := 7) (q0 := 0) (n := 2) (Rf := 2048) (Rl := 84000) S rfl rfl hKC hA hZ hP hD hS hl [.int (xs (Int32.toNatClampNeg (nI i + 1))), .int (xs (Int32.toNatClampNeg (nI i + 2)))] [] (kP_coin l D uP uL uG uR uT uC uA uK uW uI cI cB cR cM cJ t σP σL σG σR σT σC σA σK ω ι (xs (Int32.toNatClampNeg (nI i + 1))) (xs (Int32.toNatClampNeg (nI i + 2))) r h1) gL_law_X8_coin rfl (by decide +kernel) rfl ⟨by decide, by decide⟩ ⟨by decide, by decide⟩ rfl rfl rfl rfl (Nat.le_of_ble_eq_true rfl) dL_law_598 (fun H locs hP hD hS => ?_)
  refine W.eq (g2 := F0 m 601 ls [.int r]) rfl ?_
  refine lv_aload_n hx hb dL_law_601 rfl (lv_at hl 2 rfl) ?_
  refine lv_aload_n hx hb dL_law_602 rfl (lv_at hl 0 rfl) ?_
  refine lv_iload_n hx hb dL_law_603 rfl (lv_at hl 3 rfl) ?_
  refine lv_iconst (v := 1) hx hb dL_law_604 (by decide) ?_
  refine lv_iadd hx hb dL_law_605 ?_
  refine va_sld hx hb hX hbl hbA hS hi1 dL_law_606 ?_
  refine lv_aload_n hx hb dL_law_607 rfl (lv_at hl 0 rfl) ?_
  refine lv_iload_n hx hb dL_law_608 rfl (lv_at hl 3 rfl) ?_
  refine lv_iconst (v := 2) hx hb dL_law_609 (by decide) ?_
  refine lv_iadd hx hb dL_law_610 ?_
  refine va_sld hx hb hX hbl hbA hS hi2 dL_law_611 ?_
  refine kl_m (ci := 8) (q0 := 0) (n := 2) (Rf := 2048) (Rl := 84000) S rfl rfl hKM hA hP hD hS hl [.int (xs (Int32.toNatClampNeg (nI i + 1))), .int (xs (Int32.toNatClampNeg (nI i + 2)))] [.int r] (kM_coin l D uM cI cZ σ (xs (Int32.toNatClampNeg (nI i + 1))) (xs (Int32.toNatClampNeg (nI i + 2))) r σ' h3) gL_law_X9_coin rfl (by decide +kernel) rfl ⟨by decide, by decide⟩ ⟨by decide, by decide⟩ rfl rfl rfl rfl (Nat.le_of_ble_eq_true rfl) dL_law_612 (fun H locs hP hD hS => ?_)
  refine W.eq (g2 := F0 m 615 ls [.int r, .int r]) rfl ?_
  refine lv_icmp_eq (tgt := 1058) hx hb dL_law_615 (by decide) (fun _ => ?_) (fun cn => absurd rfl cn)
  exact hnext uP uL uG uR uT uC uA uK uW uI σP σL σG σR σT σC σA σK ω ι σ' ls H locs hrel' hl hP hD hS
set_option maxHeartbeats 4000000 in
set_option maxRecDepth 100000 in
theorem law_far (Rel : Nat → MS → MS → MS → MS → MS → MS → MS → MS → (Nat → MS) → (Nat → MS) → MS → Prop) (hsim : Sim_far Rel) {p : Program} {e : Env} {s : State} {m : MethodId} {below : List Frame} {meth : Method} {c : Code} {l : Launch} {b L : Nat} {xs : Nat → Int32} {D : va_G} {cI cB cR cM cJ cZ : ClassId} {t : Nat → Nat} (C0 : lw_At p s m meth c b L xs) (hKC : va_K D vwCl (ctys cI cB cR cM cJ) s) (hKM : va_K D vwCl [(cI, .int), (cZ, .boolean)] s) (hZ : ZZ t (fun q : Nat => s.heap.size ≤ q) s) (i kk : Nat) (hkk : kk < 512) (hi : i + 6 ≤ L) (hL : L ≤ 3072) (uM uP uL uG uR uT uC uA uK : Nat → Nat) (uW uI : Nat → Nat → Nat) (σP σL σG σR σT σC σA σK : MS) (ω ι : Nat → MS) (σ : MS) (ls : Array Slot) (H : Heap) (locs : List Loc) (hnext : ∀ (uP uL uG uR uT uC uA uK : Nat → Nat) (uW uI : Nat → Nat → Nat) (σP σL σG σR σT σC σA σK : MS) (ω ι : Nat → MS) (σ : MS) (ls : Array Slot) (H : Heap) (locs : List Loc), Rel (kk + 1) σP σL σG σR σT σC σA σK ω ι σ → lv_has ls 4 [(0, .ref b), (1, .ref (uP 0)), (2, .ref (uM 0)), (3, .int (nI i))] → va_P D vwCl ((pw uP uL uG uR uT uC uA uK uW uI cI cB cR cM cJ σP σL σG σR σT σC σA σK ω ι) ++ mw uM cI cZ σ) H → va_D (fun q : Nat => s.heap.size ≤ q) ((pw uP uL uG uR uT uC uA uK uW uI cI cB cR cM cJ σP σL σG σR σT σC σA σK ω ι) ++ mw uM cI cZ σ) → va_S (fun q : Nat => s.heap.size ≤ q) s.heap H locs → W p l e room_1 s m #[Value.ref b] below meth c H locs 86 8016 (lw_Z below #[Value.ref b] s) (F0 m 1058 ls [])) (hrel : Rel kk σP σL σG σR σT σC σA σK ω ι σ) (hl : lv_has ls 4 [(0, .ref b), (1, .ref (uP 0)), (2, .ref (uM 0)), (3, .int (nI i))]) (hP : va_P D vwCl ((pw uP uL uG uR uT uC uA uK uW uI cI cB cR cM cJ σP σL σG σR σT σC σA σK ω ι) ++ mw uM cI cZ σ) H) (hD : va_D (fun q : Nat => s.heap.size ≤ q) ((pw uP uL uG uR uT uC uA uK uW uI cI cB cR cM cJ σP σL σG σR σT σC σA σK ω ι) ++ mw uM cI cZ σ)) (hS : va_S (fun q : Nat => s.heap.size ≤ q) s.heap H locs) : W p l e room_1 s m #[Value.ref b] below meth c H locs 86 8016 (lw_Z below #[Value.ref b] s) (F0 m 620 ls []) := by
  obtain ⟨hx, hb, hr, hml, hown, hts, hX, hbl, hlocks, hgv⟩ := id C0
  have S : CallFix p m c cL_law 4 s #[Value.ref b] wsL_law RL := ⟨hx, hb, hml, hown, fun w h => hts w (wsL_law_in w h)⟩
  have hA : ∀ q : Nat, s.heap.size ≤ q → (fun q : Nat => s.heap.size ≤ q) q := fun _ h => h
  have hbA : ¬ (fun q : Nat => s.heap.size ≤ q) b := Nat.not_le.mpr hbl
  have hi1 : vp_in (nI i + 1) L := by rw [show nI i + 1 = nI (i + 1) from nI_add i 1]; exact vp_in_nI (by omega) (by omega)
  have hi2 : vp_in (nI i + 2) L := by rw [show nI i + 2 = nI (i + 2) from nI_add i 2]; exact vp_in_nI (by omega) (by omega)
  obtain ⟨r, σ', h1, h3, hrel'⟩ := hsim kk σP σL σG σR σT σC σA σK ω ι σ (xs (Int32.toNatClampNeg (nI i + 1))) (xs (Int32.toNatClampNeg (nI i + 2))) hkk hrel
  refine lv_aload_n hx hb dL_law_620 rfl (lv_at hl 1 rfl) ?_
  refine lv_aload_n hx hb dL_law_621 rfl (lv_at hl 0 rfl) ?_
  refine lv_iload_n hx hb dL_law_622 rfl (lv_at hl 3 rfl) ?_
  refine lv_iconst (v := 1) hx hb dL_law_623 (by decide) ?_
  refine lv_iadd hx hb dL_law_624 ?_
  refine va_sld hx hb hX hbl hbA hS hi1 dL_law_625 ?_
  refine lv_aload_n hx hb dL_law_626 rfl (lv_at hl 0 rfl) ?_
  refine lv_iload_n hx hb dL_law_627 rfl (lv_at hl 3 rfl) ?_
  refine lv_iconst (v := 2) hx hb dL_law_628 (by decide) ?_
  refine lv_iadd hx hb dL_law_629 ?_
  refine va_sld hx hb hX hbl hbA hS hi2 dL_law_630 ?_
  refine kl_c (ci := 7) (q0 := 0) (n := 2) (Rf := 2048) (Rl := 84000) S rfl rfl hKC hA hZ hP hD hS hl [.int (xs (Int32.toNatClampNeg (nI i + 1))), .int (xs (Int32.toNatClampNeg (nI i + 2)))] [] (kP_far l D uP uL uG uR uT uC uA uK uW uI cI cB cR cM cJ t σP σL σG σR σT σC σA σK ω ι (xs (Int32.toNatClampNeg (nI i + 1))) (xs (Int32.toNatClampNeg (nI i + 2))) r h1) gL_law_X8_far rfl (by decide +kernel) rfl ⟨by decide, by decide⟩ ⟨by decide, by decide⟩ rfl rfl rfl rfl (Nat.le_of_ble_eq_true rfl) dL_law_631 (fun H locs hP hD hS => ?_)
  refine W.eq (g2 := F0 m 634 ls [.int r]) rfl ?_
  refine lv_aload_n hx hb dL_law_634 rfl (lv_at hl 2 rfl) ?_
  refine lv_aload_n hx hb dL_law_635 rfl (lv_at hl 0 rfl) ?_
  refine lv_iload_n hx hb dL_law_636 rfl (lv_at hl 3 rfl) ?_
  refine lv_iconst (v := 1) hx hb dL_law_637 (by decide) ?_
  refine lv_iadd hx hb dL_law_638 ?_
  refine va_sld hx hb hX hbl hbA hS hi1 dL_law_639 ?_
  refine lv_aload_n hx hb dL_law_640 rfl (lv_at hl 0 rfl) ?_
  refine lv_iload_n hx hb dL_law_641 rfl (lv_at hl 3 rfl) ?_
  refine lv_iconst (v := 2) hx hb dL_law_642 (by decide) ?_
  refine lv_iadd hx hb dL_law_643 ?_
  refine va_sld hx hb hX hbl hbA hS hi2 dL_law_644 ?_
  refine kl_m (ci := 8) (q0 := 0) (n := 2) (Rf := 2048) (Rl := 84000) S rfl rfl hKM hA hP hD hS hl [.int (xs (Int32.toNatClampNeg (nI i + 1))), .int (xs (Int32.toNatClampNeg (nI i + 2)))] [.int r] (kM_far l D uM cI cZ σ (xs (Int32.toNatClampNeg (nI i + 1))) (xs (Int32.toNatClampNeg (nI i + 2))) r σ' h3) gL_law_X9_far rfl (by decide +kernel) rfl ⟨by decide, by decide⟩ ⟨by decide, by decide⟩ rfl rfl rfl rfl (Nat.le_of_ble_eq_true rfl) dL_law_645 (fun H locs hP hD hS => ?_)
  refine W.eq (g2 := F0 m 648 ls [.int r, .int r]) rfl ?_
  refine lv_icmp_eq (tgt := 1058) hx hb dL_law_648 (by decide) (fun _ => ?_) (fun cn => absurd rfl cn)
  exact hnext uP uL uG uR uT uC uA uK uW uI σP σL σG σR σT σC σA σK ω ι σ' ls H locs hrel' hl hP hD hS
set_option maxHeartbeats 4000000 in
set_option maxRecDepth 100000 in
theorem law_late (Rel : Nat → MS → MS → MS → MS → MS → MS → MS → MS → (Nat → MS) → (Nat → MS) → MS → Prop) (hsim : Sim_late Rel) {p : Program} {e : Env} {s : State} {m : MethodId} {below : List Frame} {meth : Method} {c : Code} {l : Launch} {b L : Nat} {xs : Nat → Int32} {D : va_G} {cI cB cR cM cJ cZ : ClassId} {t : Nat → Nat} (C0 : lw_At p s m meth c b L xs) (hKC : va_K D vwCl (ctys cI cB cR cM cJ) s) (hKM : va_K D vwCl [(cI, .int), (cZ, .boolean)] s) (hZ : ZZ t (fun q : Nat => s.heap.size ≤ q) s) (i kk : Nat) (hkk : kk < 512) (hi : i + 6 ≤ L) (hL : L ≤ 3072) (uM uP uL uG uR uT uC uA uK : Nat → Nat) (uW uI : Nat → Nat → Nat) (σP σL σG σR σT σC σA σK : MS) (ω ι : Nat → MS) (σ : MS) (ls : Array Slot) (H : Heap) (locs : List Loc) (hnext : ∀ (uP uL uG uR uT uC uA uK : Nat → Nat) (uW uI : Nat → Nat → Nat) (σP σL σG σR σT σC σA σK : MS) (ω ι : Nat → MS) (σ : MS) (ls : Array Slot) (H : Heap) (locs : List Loc), Rel (kk + 1) σP σL σG σR σT σC σA σK ω ι σ → lv_has ls 4 [(0, .ref b), (1, .ref (uP 0)), (2, .ref (uM 0)), (3, .int (nI i))] → va_P D vwCl ((pw uP uL uG uR uT uC uA uK uW uI cI cB cR cM cJ σP σL σG σR σT σC σA σK ω ι) ++ mw uM cI cZ σ) H → va_D (fun q : Nat => s.heap.size ≤ q) ((pw uP uL uG uR uT uC uA uK uW uI cI cB cR cM cJ σP σL σG σR σT σC σA σK ω ι) ++ mw uM cI cZ σ) → va_S (fun q : Nat => s.heap.size ≤ q) s.heap H locs → W p l e room_1 s m #[Value.ref b] below meth c H locs 86 8016 (lw_Z below #[Value.ref b] s) (F0 m 1058 ls [])) (hrel : Rel kk σP σL σG σR σT σC σA σK ω ι σ) (hl : lv_has ls 4 [(0, .ref b), (1, .ref (uP 0)), (2, .ref (uM 0)), (3, .int (nI i))]) (hP : va_P D vwCl ((pw uP uL uG uR uT uC uA uK uW uI cI cB cR cM cJ σP σL σG σR σT σC σA σK ω ι) ++ mw uM cI cZ σ) H) (hD : va_D (fun q : Nat => s.heap.size ≤ q) ((pw uP uL uG uR uT uC uA uK uW uI cI cB cR cM cJ σP σL σG σR σT σC σA σK ω ι) ++ mw uM cI cZ σ)) (hS : va_S (fun q : Nat => s.heap.size ≤ q) s.heap H locs) : W p l e room_1 s m #[Value.ref b] below meth c H locs 86 8016 (lw_Z below #[Value.ref b] s) (F0 m 653 ls []) := by
  obtain ⟨hx, hb, hr, hml, hown, hts, hX, hbl, hlocks, hgv⟩ := id C0
  have S : CallFix p m c cL_law 4 s #[Value.ref b] wsL_law RL := ⟨hx, hb, hml, hown, fun w h => hts w (wsL_law_in w h)⟩
  have hA : ∀ q : Nat, s.heap.size ≤ q → (fun q : Nat => s.heap.size ≤ q) q := fun _ h => h
  have hbA : ¬ (fun q : Nat => s.heap.size ≤ q) b := Nat.not_le.mpr hbl
  obtain ⟨r, σ', h1, h3, hrel'⟩ := hsim kk σP σL σG σR σT σC σA σK ω ι σ hkk hrel
  refine lv_aload_n hx hb dL_law_653 rfl (lv_at hl 1 rfl) ?_
  refine kl_c (ci := 7) (q0 := 0) (n := 0) (Rf := 2048) (Rl := 84000) S rfl rfl hKC hA hZ hP hD hS hl [] [] (kP_late l D uP uL uG uR uT uC uA uK uW uI cI cB cR cM cJ t σP σL σG σR σT σC σA σK ω ι r h1) gL_law_X8_late rfl (by decide +kernel) rfl ⟨by decide, by decide⟩ ⟨by decide, by decide⟩ rfl rfl rfl rfl (Nat.le_of_ble_eq_true rfl) dL_law_654 (fun H locs hP hD hS => ?_)
  refine W.eq (g2 := F0 m 657 ls [.int r]) rfl ?_
  refine lv_aload_n hx hb dL_law_657 rfl (lv_at hl 2 rfl) ?_
  refine kl_m (ci := 8) (q0 := 0) (n := 0) (Rf := 2048) (Rl := 84000) S rfl rfl hKM hA hP hD hS hl [] [.int r] (kM_late l D uM cI cZ σ r σ' h3) gL_law_X9_late rfl (by decide +kernel) rfl ⟨by decide, by decide⟩ ⟨by decide, by decide⟩ rfl rfl rfl rfl (Nat.le_of_ble_eq_true rfl) dL_law_658 (fun H locs hP hD hS => ?_)
  refine W.eq (g2 := F0 m 661 ls [.int r, .int r]) rfl ?_
  refine lv_icmp_eq (tgt := 1058) hx hb dL_law_661 (by decide) (fun _ => ?_) (fun cn => absurd rfl cn)
  exact hnext uP uL uG uR uT uC uA uK uW uI σP σL σG σR σT σC σA σK ω ι σ' ls H locs hrel' hl hP hD hS
set_option maxHeartbeats 4000000 in
set_option maxRecDepth 100000 in
theorem law_mustGo (Rel : Nat → MS → MS → MS → MS → MS → MS → MS → MS → (Nat → MS) → (Nat → MS) → MS → Prop) (hsim : Sim_mustGo Rel) {p : Program} {e : Env} {s : State} {m : MethodId} {below : List Frame} {meth : Method} {c : Code} {l : Launch} {b L : Nat} {xs : Nat → Int32} {D : va_G} {cI cB cR cM cJ cZ : ClassId} {t : Nat → Nat} (C0 : lw_At p s m meth c b L xs) (hKC : va_K D vwCl (ctys cI cB cR cM cJ) s) (hKM : va_K D vwCl [(cI, .int), (cZ, .boolean)] s) (hZ : ZZ t (fun q : Nat => s.heap.size ≤ q) s) (i kk : Nat) (hkk : kk < 512) (hi : i + 6 ≤ L) (hL : L ≤ 3072) (uM uP uL uG uR uT uC uA uK : Nat → Nat) (uW uI : Nat → Nat → Nat) (σP σL σG σR σT σC σA σK : MS) (ω ι : Nat → MS) (σ : MS) (ls : Array Slot) (H : Heap) (locs : List Loc) (hnext : ∀ (uP uL uG uR uT uC uA uK : Nat → Nat) (uW uI : Nat → Nat → Nat) (σP σL σG σR σT σC σA σK : MS) (ω ι : Nat → MS) (σ : MS) (ls : Array Slot) (H : Heap) (locs : List Loc), Rel (kk + 1) σP σL σG σR σT σC σA σK ω ι σ → lv_has ls 4 [(0, .ref b), (1, .ref (uP 0)), (2, .ref (uM 0)), (3, .int (nI i))] → va_P D vwCl ((pw uP uL uG uR uT uC uA uK uW uI cI cB cR cM cJ σP σL σG σR σT σC σA σK ω ι) ++ mw uM cI cZ σ) H → va_D (fun q : Nat => s.heap.size ≤ q) ((pw uP uL uG uR uT uC uA uK uW uI cI cB cR cM cJ σP σL σG σR σT σC σA σK ω ι) ++ mw uM cI cZ σ) → va_S (fun q : Nat => s.heap.size ≤ q) s.heap H locs → W p l e room_1 s m #[Value.ref b] below meth c H locs 86 8016 (lw_Z below #[Value.ref b] s) (F0 m 1058 ls [])) (hrel : Rel kk σP σL σG σR σT σC σA σK ω ι σ) (hl : lv_has ls 4 [(0, .ref b), (1, .ref (uP 0)), (2, .ref (uM 0)), (3, .int (nI i))]) (hP : va_P D vwCl ((pw uP uL uG uR uT uC uA uK uW uI cI cB cR cM cJ σP σL σG σR σT σC σA σK ω ι) ++ mw uM cI cZ σ) H) (hD : va_D (fun q : Nat => s.heap.size ≤ q) ((pw uP uL uG uR uT uC uA uK uW uI cI cB cR cM cJ σP σL σG σR σT σC σA σK ω ι) ++ mw uM cI cZ σ)) (hS : va_S (fun q : Nat => s.heap.size ≤ q) s.heap H locs) : W p l e room_1 s m #[Value.ref b] below meth c H locs 86 8016 (lw_Z below #[Value.ref b] s) (F0 m 666 ls []) := by
  obtain ⟨hx, hb, hr, hml, hown, hts, hX, hbl, hlocks, hgv⟩ := id C0
  have S : CallFix p m c cL_law 4 s #[Value.ref b] wsL_law RL := ⟨hx, hb, hml, hown, fun w h => hts w (wsL_law_in w h)⟩
  have hA : ∀ q : Nat, s.heap.size ≤ q → (fun q : Nat => s.heap.size ≤ q) q := fun _ h => h
  have hbA : ¬ (fun q : Nat => s.heap.size ≤ q) b := Nat.not_le.mpr hbl
  have hi1 : vp_in (nI i + 1) L := by rw [show nI i + 1 = nI (i + 1) from nI_add i 1]; exact vp_in_nI (by omega) (by omega)
  obtain ⟨r, σ', h1, h3, hrel'⟩ := hsim kk σP σL σG σR σT σC σA σK ω ι σ (xs (Int32.toNatClampNeg (nI i + 1))) hkk hrel
  refine lv_aload_n hx hb dL_law_666 rfl (lv_at hl 1 rfl) ?_
  refine lv_aload_n hx hb dL_law_667 rfl (lv_at hl 0 rfl) ?_
  refine lv_iload_n hx hb dL_law_668 rfl (lv_at hl 3 rfl) ?_
  refine lv_iconst (v := 1) hx hb dL_law_669 (by decide) ?_
  refine lv_iadd hx hb dL_law_670 ?_
  refine va_sld hx hb hX hbl hbA hS hi1 dL_law_671 ?_
  refine kl_c (ci := 7) (q0 := 0) (n := 1) (Rf := 2048) (Rl := 84000) S rfl rfl hKC hA hZ hP hD hS hl [.int (xs (Int32.toNatClampNeg (nI i + 1)))] [] (kP_mustGo l D uP uL uG uR uT uC uA uK uW uI cI cB cR cM cJ t σP σL σG σR σT σC σA σK ω ι (xs (Int32.toNatClampNeg (nI i + 1))) r h1) gL_law_X8_mustGo rfl (by decide +kernel) rfl ⟨by decide, by decide⟩ ⟨by decide, by decide⟩ rfl rfl rfl rfl (Nat.le_of_ble_eq_true rfl) dL_law_672 (fun H locs hP hD hS => ?_)
  refine W.eq (g2 := F0 m 675 ls [.int r]) rfl ?_
  refine lv_aload_n hx hb dL_law_675 rfl (lv_at hl 2 rfl) ?_
  refine lv_aload_n hx hb dL_law_676 rfl (lv_at hl 0 rfl) ?_
  refine lv_iload_n hx hb dL_law_677 rfl (lv_at hl 3 rfl) ?_
  refine lv_iconst (v := 1) hx hb dL_law_678 (by decide) ?_
  refine lv_iadd hx hb dL_law_679 ?_
  refine va_sld hx hb hX hbl hbA hS hi1 dL_law_680 ?_
  refine kl_m (ci := 8) (q0 := 0) (n := 1) (Rf := 2048) (Rl := 84000) S rfl rfl hKM hA hP hD hS hl [.int (xs (Int32.toNatClampNeg (nI i + 1)))] [.int r] (kM_mustGo l D uM cI cZ σ (xs (Int32.toNatClampNeg (nI i + 1))) r σ' h3) gL_law_X9_mustGo rfl (by decide +kernel) rfl ⟨by decide, by decide⟩ ⟨by decide, by decide⟩ rfl rfl rfl rfl (Nat.le_of_ble_eq_true rfl) dL_law_681 (fun H locs hP hD hS => ?_)
  refine W.eq (g2 := F0 m 684 ls [.int r, .int r]) rfl ?_
  refine lv_icmp_eq (tgt := 1058) hx hb dL_law_684 (by decide) (fun _ => ?_) (fun cn => absurd rfl cn)
  exact hnext uP uL uG uR uT uC uA uK uW uI σP σL σG σR σT σC σA σK ω ι σ' ls H locs hrel' hl hP hD hS
set_option maxHeartbeats 4000000 in
set_option maxRecDepth 100000 in
theorem law_save (Rel : Nat → MS → MS → MS → MS → MS → MS → MS → MS → (Nat → MS) → (Nat → MS) → MS → Prop) (hsim : Sim_save Rel) {p : Program} {e : Env} {s : State} {m : MethodId} {below : List Frame} {meth : Method} {c : Code} {l : Launch} {b L : Nat} {xs : Nat → Int32} {D : va_G} {cI cB cR cM cJ cZ : ClassId} {t : Nat → Nat} (C0 : lw_At p s m meth c b L xs) (hKC : va_K D vwCl (ctys cI cB cR cM cJ) s) (hKM : va_K D vwCl [(cI, .int), (cZ, .boolean)] s) (hZ : ZZ t (fun q : Nat => s.heap.size ≤ q) s) (i kk : Nat) (hkk : kk < 512) (hi : i + 6 ≤ L) (hL : L ≤ 3072) (uM uP uL uG uR uT uC uA uK : Nat → Nat) (uW uI : Nat → Nat → Nat) (σP σL σG σR σT σC σA σK : MS) (ω ι : Nat → MS) (σ : MS) (ls : Array Slot) (H : Heap) (locs : List Loc) (hnext : ∀ (uP uL uG uR uT uC uA uK : Nat → Nat) (uW uI : Nat → Nat → Nat) (σP σL σG σR σT σC σA σK : MS) (ω ι : Nat → MS) (σ : MS) (ls : Array Slot) (H : Heap) (locs : List Loc), Rel (kk + 1) σP σL σG σR σT σC σA σK ω ι σ → lv_has ls 4 [(0, .ref b), (1, .ref (uP 0)), (2, .ref (uM 0)), (3, .int (nI i))] → va_P D vwCl ((pw uP uL uG uR uT uC uA uK uW uI cI cB cR cM cJ σP σL σG σR σT σC σA σK ω ι) ++ mw uM cI cZ σ) H → va_D (fun q : Nat => s.heap.size ≤ q) ((pw uP uL uG uR uT uC uA uK uW uI cI cB cR cM cJ σP σL σG σR σT σC σA σK ω ι) ++ mw uM cI cZ σ) → va_S (fun q : Nat => s.heap.size ≤ q) s.heap H locs → W p l e room_1 s m #[Value.ref b] below meth c H locs 86 8016 (lw_Z below #[Value.ref b] s) (F0 m 1058 ls [])) (hrel : Rel kk σP σL σG σR σT σC σA σK ω ι σ) (hl : lv_has ls 4 [(0, .ref b), (1, .ref (uP 0)), (2, .ref (uM 0)), (3, .int (nI i))]) (hP : va_P D vwCl ((pw uP uL uG uR uT uC uA uK uW uI cI cB cR cM cJ σP σL σG σR σT σC σA σK ω ι) ++ mw uM cI cZ σ) H) (hD : va_D (fun q : Nat => s.heap.size ≤ q) ((pw uP uL uG uR uT uC uA uK uW uI cI cB cR cM cJ σP σL σG σR σT σC σA σK ω ι) ++ mw uM cI cZ σ)) (hS : va_S (fun q : Nat => s.heap.size ≤ q) s.heap H locs) : W p l e room_1 s m #[Value.ref b] below meth c H locs 86 8016 (lw_Z below #[Value.ref b] s) (F0 m 689 ls []) := by
  obtain ⟨hx, hb, hr, hml, hown, hts, hX, hbl, hlocks, hgv⟩ := id C0
  have S : CallFix p m c cL_law 4 s #[Value.ref b] wsL_law RL := ⟨hx, hb, hml, hown, fun w h => hts w (wsL_law_in w h)⟩
  have hA : ∀ q : Nat, s.heap.size ≤ q → (fun q : Nat => s.heap.size ≤ q) q := fun _ h => h
  have hbA : ¬ (fun q : Nat => s.heap.size ≤ q) b := Nat.not_le.mpr hbl
  have hi1 : vp_in (nI i + 1) L := by rw [show nI i + 1 = nI (i + 1) from nI_add i 1]; exact vp_in_nI (by omega) (by omega)
  obtain ⟨r, σ', h1, h3, hrel'⟩ := hsim kk σP σL σG σR σT σC σA σK ω ι σ (xs (Int32.toNatClampNeg (nI i + 1))) hkk hrel
  refine lv_aload_n hx hb dL_law_689 rfl (lv_at hl 1 rfl) ?_
  refine lv_aload_n hx hb dL_law_690 rfl (lv_at hl 0 rfl) ?_
  refine lv_iload_n hx hb dL_law_691 rfl (lv_at hl 3 rfl) ?_
  refine lv_iconst (v := 1) hx hb dL_law_692 (by decide) ?_
  refine lv_iadd hx hb dL_law_693 ?_
  refine va_sld hx hb hX hbl hbA hS hi1 dL_law_694 ?_
  refine kl_c (ci := 7) (q0 := 0) (n := 1) (Rf := 2048) (Rl := 84000) S rfl rfl hKC hA hZ hP hD hS hl [.int (xs (Int32.toNatClampNeg (nI i + 1)))] [] (kP_save l D uP uL uG uR uT uC uA uK uW uI cI cB cR cM cJ t σP σL σG σR σT σC σA σK ω ι (xs (Int32.toNatClampNeg (nI i + 1))) r h1) gL_law_X8_save rfl (by decide +kernel) rfl ⟨by decide, by decide⟩ ⟨by decide, by decide⟩ rfl rfl rfl rfl (Nat.le_of_ble_eq_true rfl) dL_law_695 (fun H locs hP hD hS => ?_)
  refine W.eq (g2 := F0 m 698 ls [.int r]) rfl ?_
  refine lv_aload_n hx hb dL_law_698 rfl (lv_at hl 2 rfl) ?_
  refine lv_aload_n hx hb dL_law_699 rfl (lv_at hl 0 rfl) ?_
  refine lv_iload_n hx hb dL_law_700 rfl (lv_at hl 3 rfl) ?_
  refine lv_iconst (v := 1) hx hb dL_law_701 (by decide) ?_
  refine lv_iadd hx hb dL_law_702 ?_
  refine va_sld hx hb hX hbl hbA hS hi1 dL_law_703 ?_
  refine kl_m (ci := 8) (q0 := 0) (n := 1) (Rf := 2048) (Rl := 84000) S rfl rfl hKM hA hP hD hS hl [.int (xs (Int32.toNatClampNeg (nI i + 1)))] [.int r] (kM_save l D uM cI cZ σ (xs (Int32.toNatClampNeg (nI i + 1))) r σ' h3) gL_law_X9_save rfl (by decide +kernel) rfl ⟨by decide, by decide⟩ ⟨by decide, by decide⟩ rfl rfl rfl rfl (Nat.le_of_ble_eq_true rfl) dL_law_704 (fun H locs hP hD hS => ?_)
  refine W.eq (g2 := F0 m 707 ls [.int r, .int r]) rfl ?_
  refine lv_icmp_eq (tgt := 1058) hx hb dL_law_707 (by decide) (fun _ => ?_) (fun cn => absurd rfl cn)
  exact hnext uP uL uG uR uT uC uA uK uW uI σP σL σG σR σT σC σA σK ω ι σ' ls H locs hrel' hl hP hD hS
set_option maxHeartbeats 4000000 in
set_option maxRecDepth 100000 in
theorem law_tour (Rel : Nat → MS → MS → MS → MS → MS → MS → MS → MS → (Nat → MS) → (Nat → MS) → MS → Prop) (hsim : Sim_tour Rel) {p : Program} {e : Env} {s : State} {m : MethodId} {below : List Frame} {meth : Method} {c : Code} {l : Launch} {b L : Nat} {xs : Nat → Int32} {D : va_G} {cI cB cR cM cJ cZ : ClassId} {t : Nat → Nat} (C0 : lw_At p s m meth c b L xs) (hKC : va_K D vwCl (ctys cI cB cR cM cJ) s) (hKM : va_K D vwCl [(cI, .int), (cZ, .boolean)] s) (hZ : ZZ t (fun q : Nat => s.heap.size ≤ q) s) (i kk : Nat) (hkk : kk < 512) (hi : i + 6 ≤ L) (hL : L ≤ 3072) (uM uP uL uG uR uT uC uA uK : Nat → Nat) (uW uI : Nat → Nat → Nat) (σP σL σG σR σT σC σA σK : MS) (ω ι : Nat → MS) (σ : MS) (ls : Array Slot) (H : Heap) (locs : List Loc) (hnext : ∀ (uP uL uG uR uT uC uA uK : Nat → Nat) (uW uI : Nat → Nat → Nat) (σP σL σG σR σT σC σA σK : MS) (ω ι : Nat → MS) (σ : MS) (ls : Array Slot) (H : Heap) (locs : List Loc), Rel (kk + 1) σP σL σG σR σT σC σA σK ω ι σ → lv_has ls 4 [(0, .ref b), (1, .ref (uP 0)), (2, .ref (uM 0)), (3, .int (nI i))] → va_P D vwCl ((pw uP uL uG uR uT uC uA uK uW uI cI cB cR cM cJ σP σL σG σR σT σC σA σK ω ι) ++ mw uM cI cZ σ) H → va_D (fun q : Nat => s.heap.size ≤ q) ((pw uP uL uG uR uT uC uA uK uW uI cI cB cR cM cJ σP σL σG σR σT σC σA σK ω ι) ++ mw uM cI cZ σ) → va_S (fun q : Nat => s.heap.size ≤ q) s.heap H locs → W p l e room_1 s m #[Value.ref b] below meth c H locs 86 8016 (lw_Z below #[Value.ref b] s) (F0 m 1058 ls [])) (hrel : Rel kk σP σL σG σR σT σC σA σK ω ι σ) (hl : lv_has ls 4 [(0, .ref b), (1, .ref (uP 0)), (2, .ref (uM 0)), (3, .int (nI i))]) (hP : va_P D vwCl ((pw uP uL uG uR uT uC uA uK uW uI cI cB cR cM cJ σP σL σG σR σT σC σA σK ω ι) ++ mw uM cI cZ σ) H) (hD : va_D (fun q : Nat => s.heap.size ≤ q) ((pw uP uL uG uR uT uC uA uK uW uI cI cB cR cM cJ σP σL σG σR σT σC σA σK ω ι) ++ mw uM cI cZ σ)) (hS : va_S (fun q : Nat => s.heap.size ≤ q) s.heap H locs) : W p l e room_1 s m #[Value.ref b] below meth c H locs 86 8016 (lw_Z below #[Value.ref b] s) (F0 m 712 ls []) := by
  obtain ⟨hx, hb, hr, hml, hown, hts, hX, hbl, hlocks, hgv⟩ := id C0
  have S : CallFix p m c cL_law 4 s #[Value.ref b] wsL_law RL := ⟨hx, hb, hml, hown, fun w h => hts w (wsL_law_in w h)⟩
  have hA : ∀ q : Nat, s.heap.size ≤ q → (fun q : Nat => s.heap.size ≤ q) q := fun _ h => h
  have hbA : ¬ (fun q : Nat => s.heap.size ≤ q) b := Nat.not_le.mpr hbl
  have hi1 : vp_in (nI i + 1) L := by rw [show nI i + 1 = nI (i + 1) from nI_add i 1]; exact vp_in_nI (by omega) (by omega)
  have hi2 : vp_in (nI i + 2) L := by rw [show nI i + 2 = nI (i + 2) from nI_add i 2]; exact vp_in_nI (by omega) (by omega)
  obtain ⟨r, σC', σ', h1, h3, hrel'⟩ := hsim kk σP σL σG σR σT σC σA σK ω ι σ (xs (Int32.toNatClampNeg (nI i + 1))) (xs (Int32.toNatClampNeg (nI i + 2))) hkk hrel
  refine lv_aload_n hx hb dL_law_712 rfl (lv_at hl 1 rfl) ?_
  refine lv_aload_n hx hb dL_law_713 rfl (lv_at hl 0 rfl) ?_
  refine lv_iload_n hx hb dL_law_714 rfl (lv_at hl 3 rfl) ?_
  refine lv_iconst (v := 1) hx hb dL_law_715 (by decide) ?_
  refine lv_iadd hx hb dL_law_716 ?_
  refine va_sld hx hb hX hbl hbA hS hi1 dL_law_717 ?_
  refine lv_aload_n hx hb dL_law_718 rfl (lv_at hl 0 rfl) ?_
  refine lv_iload_n hx hb dL_law_719 rfl (lv_at hl 3 rfl) ?_
  refine lv_iconst (v := 2) hx hb dL_law_720 (by decide) ?_
  refine lv_iadd hx hb dL_law_721 ?_
  refine va_sld hx hb hX hbl hbA hS hi2 dL_law_722 ?_
  refine kl_c (ci := 7) (q0 := 0) (n := 2) (Rf := 2048) (Rl := 84000) S rfl rfl hKC hA hZ hP hD hS hl [.int (xs (Int32.toNatClampNeg (nI i + 1))), .int (xs (Int32.toNatClampNeg (nI i + 2)))] [] (kP_tour l D uP uL uG uR uT uC uA uK uW uI cI cB cR cM cJ t σP σL σG σR σT σC σA σK ω ι (xs (Int32.toNatClampNeg (nI i + 1))) (xs (Int32.toNatClampNeg (nI i + 2))) r σC' h1) gL_law_X8_tour rfl (by decide +kernel) rfl ⟨by decide, by decide⟩ ⟨by decide, by decide⟩ rfl rfl rfl rfl (Nat.le_of_ble_eq_true rfl) dL_law_723 (fun H locs hP hD hS => ?_)
  refine W.eq (g2 := F0 m 726 ls [.int r]) rfl ?_
  refine lv_aload_n hx hb dL_law_726 rfl (lv_at hl 2 rfl) ?_
  refine lv_aload_n hx hb dL_law_727 rfl (lv_at hl 0 rfl) ?_
  refine lv_iload_n hx hb dL_law_728 rfl (lv_at hl 3 rfl) ?_
  refine lv_iconst (v := 1) hx hb dL_law_729 (by decide) ?_
  refine lv_iadd hx hb dL_law_730 ?_
  refine va_sld hx hb hX hbl hbA hS hi1 dL_law_731 ?_
  refine lv_aload_n hx hb dL_law_732 rfl (lv_at hl 0 rfl) ?_
  refine lv_iload_n hx hb dL_law_733 rfl (lv_at hl 3 rfl) ?_
  refine lv_iconst (v := 2) hx hb dL_law_734 (by decide) ?_
  refine lv_iadd hx hb dL_law_735 ?_
  refine va_sld hx hb hX hbl hbA hS hi2 dL_law_736 ?_
  refine kl_m (ci := 8) (q0 := 0) (n := 2) (Rf := 2048) (Rl := 84000) S rfl rfl hKM hA hP hD hS hl [.int (xs (Int32.toNatClampNeg (nI i + 1))), .int (xs (Int32.toNatClampNeg (nI i + 2)))] [.int r] (kM_tour l D uM cI cZ σ (xs (Int32.toNatClampNeg (nI i + 1))) (xs (Int32.toNatClampNeg (nI i + 2))) r σ' h3) gL_law_X9_tour rfl (by decide +kernel) rfl ⟨by decide, by decide⟩ ⟨by decide, by decide⟩ rfl rfl rfl rfl (Nat.le_of_ble_eq_true rfl) dL_law_737 (fun H locs hP hD hS => ?_)
  refine W.eq (g2 := F0 m 740 ls [.int r, .int r]) rfl ?_
  refine lv_icmp_eq (tgt := 1058) hx hb dL_law_740 (by decide) (fun _ => ?_) (fun cn => absurd rfl cn)
  exact hnext uP uL uG uR uT uC uA uK uW uI σP σL σG σR σT σC' σA σK ω ι σ' ls H locs hrel' hl hP hD hS
set_option maxHeartbeats 4000000 in
set_option maxRecDepth 100000 in
theorem law_mint (Rel : Nat → MS → MS → MS → MS → MS → MS → MS → MS → (Nat → MS) → (Nat → MS) → MS → Prop) (hsim : Sim_mint Rel) {p : Program} {e : Env} {s : State} {m : MethodId} {below : List Frame} {meth : Method} {c : Code} {l : Launch} {b L : Nat} {xs : Nat → Int32} {D : va_G} {cI cB cR cM cJ cZ : ClassId} {t : Nat → Nat} (C0 : lw_At p s m meth c b L xs) (hKC : va_K D vwCl (ctys cI cB cR cM cJ) s) (hKM : va_K D vwCl [(cI, .int), (cZ, .boolean)] s) (hZ : ZZ t (fun q : Nat => s.heap.size ≤ q) s) (i kk : Nat) (hkk : kk < 512) (hi : i + 6 ≤ L) (hL : L ≤ 3072) (uM uP uL uG uR uT uC uA uK : Nat → Nat) (uW uI : Nat → Nat → Nat) (σP σL σG σR σT σC σA σK : MS) (ω ι : Nat → MS) (σ : MS) (ls : Array Slot) (H : Heap) (locs : List Loc) (hnext : ∀ (uP uL uG uR uT uC uA uK : Nat → Nat) (uW uI : Nat → Nat → Nat) (σP σL σG σR σT σC σA σK : MS) (ω ι : Nat → MS) (σ : MS) (ls : Array Slot) (H : Heap) (locs : List Loc), Rel (kk + 1) σP σL σG σR σT σC σA σK ω ι σ → lv_has ls 4 [(0, .ref b), (1, .ref (uP 0)), (2, .ref (uM 0)), (3, .int (nI i))] → va_P D vwCl ((pw uP uL uG uR uT uC uA uK uW uI cI cB cR cM cJ σP σL σG σR σT σC σA σK ω ι) ++ mw uM cI cZ σ) H → va_D (fun q : Nat => s.heap.size ≤ q) ((pw uP uL uG uR uT uC uA uK uW uI cI cB cR cM cJ σP σL σG σR σT σC σA σK ω ι) ++ mw uM cI cZ σ) → va_S (fun q : Nat => s.heap.size ≤ q) s.heap H locs → W p l e room_1 s m #[Value.ref b] below meth c H locs 86 8016 (lw_Z below #[Value.ref b] s) (F0 m 1058 ls [])) (hrel : Rel kk σP σL σG σR σT σC σA σK ω ι σ) (hl : lv_has ls 4 [(0, .ref b), (1, .ref (uP 0)), (2, .ref (uM 0)), (3, .int (nI i))]) (hP : va_P D vwCl ((pw uP uL uG uR uT uC uA uK uW uI cI cB cR cM cJ σP σL σG σR σT σC σA σK ω ι) ++ mw uM cI cZ σ) H) (hD : va_D (fun q : Nat => s.heap.size ≤ q) ((pw uP uL uG uR uT uC uA uK uW uI cI cB cR cM cJ σP σL σG σR σT σC σA σK ω ι) ++ mw uM cI cZ σ)) (hS : va_S (fun q : Nat => s.heap.size ≤ q) s.heap H locs) : W p l e room_1 s m #[Value.ref b] below meth c H locs 86 8016 (lw_Z below #[Value.ref b] s) (F0 m 745 ls []) := by
  obtain ⟨hx, hb, hr, hml, hown, hts, hX, hbl, hlocks, hgv⟩ := id C0
  have S : CallFix p m c cL_law 4 s #[Value.ref b] wsL_law RL := ⟨hx, hb, hml, hown, fun w h => hts w (wsL_law_in w h)⟩
  have hA : ∀ q : Nat, s.heap.size ≤ q → (fun q : Nat => s.heap.size ≤ q) q := fun _ h => h
  have hbA : ¬ (fun q : Nat => s.heap.size ≤ q) b := Nat.not_le.mpr hbl
  have hi1 : vp_in (nI i + 1) L := by rw [show nI i + 1 = nI (i + 1) from nI_add i 1]; exact vp_in_nI (by omega) (by omega)
  obtain ⟨r, σ', h1, h3, hrel'⟩ := hsim kk σP σL σG σR σT σC σA σK ω ι σ (xs (Int32.toNatClampNeg (nI i + 1))) hkk hrel
  refine lv_aload_n hx hb dL_law_745 rfl (lv_at hl 1 rfl) ?_
  refine lv_aload_n hx hb dL_law_746 rfl (lv_at hl 0 rfl) ?_
  refine lv_iload_n hx hb dL_law_747 rfl (lv_at hl 3 rfl) ?_
  refine lv_iconst (v := 1) hx hb dL_law_748 (by decide) ?_
  refine lv_iadd hx hb dL_law_749 ?_
  refine va_sld hx hb hX hbl hbA hS hi1 dL_law_750 ?_
  refine kl_c (ci := 7) (q0 := 0) (n := 1) (Rf := 2048) (Rl := 84000) S rfl rfl hKC hA hZ hP hD hS hl [.int (xs (Int32.toNatClampNeg (nI i + 1)))] [] (kP_mint l D uP uL uG uR uT uC uA uK uW uI cI cB cR cM cJ t σP σL σG σR σT σC σA σK ω ι (xs (Int32.toNatClampNeg (nI i + 1))) r h1) gL_law_X8_mint rfl (by decide +kernel) rfl ⟨by decide, by decide⟩ ⟨by decide, by decide⟩ rfl rfl rfl rfl (Nat.le_of_ble_eq_true rfl) dL_law_751 (fun H locs hP hD hS => ?_)
  refine W.eq (g2 := F0 m 754 ls [.int r]) rfl ?_
  refine lv_aload_n hx hb dL_law_754 rfl (lv_at hl 2 rfl) ?_
  refine lv_aload_n hx hb dL_law_755 rfl (lv_at hl 0 rfl) ?_
  refine lv_iload_n hx hb dL_law_756 rfl (lv_at hl 3 rfl) ?_
  refine lv_iconst (v := 1) hx hb dL_law_757 (by decide) ?_
  refine lv_iadd hx hb dL_law_758 ?_
  refine va_sld hx hb hX hbl hbA hS hi1 dL_law_759 ?_
  refine kl_m (ci := 8) (q0 := 0) (n := 1) (Rf := 2048) (Rl := 84000) S rfl rfl hKM hA hP hD hS hl [.int (xs (Int32.toNatClampNeg (nI i + 1)))] [.int r] (kM_mint l D uM cI cZ σ (xs (Int32.toNatClampNeg (nI i + 1))) r σ' h3) gL_law_X9_mint rfl (by decide +kernel) rfl ⟨by decide, by decide⟩ ⟨by decide, by decide⟩ rfl rfl rfl rfl (Nat.le_of_ble_eq_true rfl) dL_law_760 (fun H locs hP hD hS => ?_)
  refine W.eq (g2 := F0 m 763 ls [.int r, .int r]) rfl ?_
  refine lv_icmp_eq (tgt := 1058) hx hb dL_law_763 (by decide) (fun _ => ?_) (fun cn => absurd rfl cn)
  exact hnext uP uL uG uR uT uC uA uK uW uI σP σL σG σR σT σC σA σK ω ι σ' ls H locs hrel' hl hP hD hS
set_option maxHeartbeats 4000000 in
set_option maxRecDepth 100000 in
theorem law_sounds (Rel : Nat → MS → MS → MS → MS → MS → MS → MS → MS → (Nat → MS) → (Nat → MS) → MS → Prop) (hsim : Sim_sounds Rel) {p : Program} {e : Env} {s : State} {m : MethodId} {below : List Frame} {meth : Method} {c : Code} {l : Launch} {b L : Nat} {xs : Nat → Int32} {D : va_G} {cI cB cR cM cJ cZ : ClassId} {t : Nat → Nat} (C0 : lw_At p s m meth c b L xs) (hKC : va_K D vwCl (ctys cI cB cR cM cJ) s) (hKM : va_K D vwCl [(cI, .int), (cZ, .boolean)] s) (hZ : ZZ t (fun q : Nat => s.heap.size ≤ q) s) (i kk : Nat) (hkk : kk < 512) (hi : i + 6 ≤ L) (hL : L ≤ 3072) (uM uP uL uG uR uT uC uA uK : Nat → Nat) (uW uI : Nat → Nat → Nat) (σP σL σG σR σT σC σA σK : MS) (ω ι : Nat → MS) (σ : MS) (ls : Array Slot) (H : Heap) (locs : List Loc) (hnext : ∀ (uP uL uG uR uT uC uA uK : Nat → Nat) (uW uI : Nat → Nat → Nat) (σP σL σG σR σT σC σA σK : MS) (ω ι : Nat → MS) (σ : MS) (ls : Array Slot) (H : Heap) (locs : List Loc), Rel (kk + 1) σP σL σG σR σT σC σA σK ω ι σ → lv_has ls 4 [(0, .ref b), (1, .ref (uP 0)), (2, .ref (uM 0)), (3, .int (nI i))] → va_P D vwCl ((pw uP uL uG uR uT uC uA uK uW uI cI cB cR cM cJ σP σL σG σR σT σC σA σK ω ι) ++ mw uM cI cZ σ) H → va_D (fun q : Nat => s.heap.size ≤ q) ((pw uP uL uG uR uT uC uA uK uW uI cI cB cR cM cJ σP σL σG σR σT σC σA σK ω ι) ++ mw uM cI cZ σ) → va_S (fun q : Nat => s.heap.size ≤ q) s.heap H locs → W p l e room_1 s m #[Value.ref b] below meth c H locs 86 8016 (lw_Z below #[Value.ref b] s) (F0 m 1058 ls [])) (hrel : Rel kk σP σL σG σR σT σC σA σK ω ι σ) (hl : lv_has ls 4 [(0, .ref b), (1, .ref (uP 0)), (2, .ref (uM 0)), (3, .int (nI i))]) (hP : va_P D vwCl ((pw uP uL uG uR uT uC uA uK uW uI cI cB cR cM cJ σP σL σG σR σT σC σA σK ω ι) ++ mw uM cI cZ σ) H) (hD : va_D (fun q : Nat => s.heap.size ≤ q) ((pw uP uL uG uR uT uC uA uK uW uI cI cB cR cM cJ σP σL σG σR σT σC σA σK ω ι) ++ mw uM cI cZ σ)) (hS : va_S (fun q : Nat => s.heap.size ≤ q) s.heap H locs) : W p l e room_1 s m #[Value.ref b] below meth c H locs 86 8016 (lw_Z below #[Value.ref b] s) (F0 m 768 ls []) := by
  obtain ⟨hx, hb, hr, hml, hown, hts, hX, hbl, hlocks, hgv⟩ := id C0
  have S : CallFix p m c cL_law 4 s #[Value.ref b] wsL_law RL := ⟨hx, hb, hml, hown, fun w h => hts w (wsL_law_in w h)⟩
  have hA : ∀ q : Nat, s.heap.size ≤ q → (fun q : Nat => s.heap.size ≤ q) q := fun _ h => h
  have hbA : ¬ (fun q : Nat => s.heap.size ≤ q) b := Nat.not_le.mpr hbl
  have hi1 : vp_in (nI i + 1) L := by rw [show nI i + 1 = nI (i + 1) from nI_add i 1]; exact vp_in_nI (by omega) (by omega)
  have hi2 : vp_in (nI i + 2) L := by rw [show nI i + 2 = nI (i + 2) from nI_add i 2]; exact vp_in_nI (by omega) (by omega)
  obtain ⟨r, σ', h1, h3, hrel'⟩ := hsim kk σP σL σG σR σT σC σA σK ω ι σ (xs (Int32.toNatClampNeg (nI i + 1))) (xs (Int32.toNatClampNeg (nI i + 2))) hkk hrel
  refine lv_aload_n hx hb dL_law_768 rfl (lv_at hl 1 rfl) ?_
  refine lv_aload_n hx hb dL_law_769 rfl (lv_at hl 0 rfl) ?_
  refine lv_iload_n hx hb dL_law_770 rfl (lv_at hl 3 rfl) ?_
  refine lv_iconst (v := 1) hx hb dL_law_771 (by decide) ?_
  refine lv_iadd hx hb dL_law_772 ?_
  refine va_sld hx hb hX hbl hbA hS hi1 dL_law_773 ?_
  refine lv_aload_n hx hb dL_law_774 rfl (lv_at hl 0 rfl) ?_
  refine lv_iload_n hx hb dL_law_775 rfl (lv_at hl 3 rfl) ?_
  refine lv_iconst (v := 2) hx hb dL_law_776 (by decide) ?_
  refine lv_iadd hx hb dL_law_777 ?_
  refine va_sld hx hb hX hbl hbA hS hi2 dL_law_778 ?_
  refine kl_c (ci := 7) (q0 := 0) (n := 2) (Rf := 2048) (Rl := 84000) S rfl rfl hKC hA hZ hP hD hS hl [.int (xs (Int32.toNatClampNeg (nI i + 1))), .int (xs (Int32.toNatClampNeg (nI i + 2)))] [] (kP_sounds l D uP uL uG uR uT uC uA uK uW uI cI cB cR cM cJ t σP σL σG σR σT σC σA σK ω ι (xs (Int32.toNatClampNeg (nI i + 1))) (xs (Int32.toNatClampNeg (nI i + 2))) r h1) gL_law_X8_sounds rfl (by decide +kernel) rfl ⟨by decide, by decide⟩ ⟨by decide, by decide⟩ rfl rfl rfl rfl (Nat.le_of_ble_eq_true rfl) dL_law_779 (fun H locs hP hD hS => ?_)
  refine W.eq (g2 := F0 m 782 ls [.int r]) rfl ?_
  refine lv_aload_n hx hb dL_law_782 rfl (lv_at hl 2 rfl) ?_
  refine lv_aload_n hx hb dL_law_783 rfl (lv_at hl 0 rfl) ?_
  refine lv_iload_n hx hb dL_law_784 rfl (lv_at hl 3 rfl) ?_
  refine lv_iconst (v := 1) hx hb dL_law_785 (by decide) ?_
  refine lv_iadd hx hb dL_law_786 ?_
  refine va_sld hx hb hX hbl hbA hS hi1 dL_law_787 ?_
  refine lv_aload_n hx hb dL_law_788 rfl (lv_at hl 0 rfl) ?_
  refine lv_iload_n hx hb dL_law_789 rfl (lv_at hl 3 rfl) ?_
  refine lv_iconst (v := 2) hx hb dL_law_790 (by decide) ?_
  refine lv_iadd hx hb dL_law_791 ?_
  refine va_sld hx hb hX hbl hbA hS hi2 dL_law_792 ?_
  refine kl_m (ci := 8) (q0 := 0) (n := 2) (Rf := 2048) (Rl := 84000) S rfl rfl hKM hA hP hD hS hl [.int (xs (Int32.toNatClampNeg (nI i + 1))), .int (xs (Int32.toNatClampNeg (nI i + 2)))] [.int r] (kM_sounds l D uM cI cZ σ (xs (Int32.toNatClampNeg (nI i + 1))) (xs (Int32.toNatClampNeg (nI i + 2))) r σ' h3) gL_law_X9_sounds rfl (by decide +kernel) rfl ⟨by decide, by decide⟩ ⟨by decide, by decide⟩ rfl rfl rfl rfl (Nat.le_of_ble_eq_true rfl) dL_law_793 (fun H locs hP hD hS => ?_)
  refine W.eq (g2 := F0 m 796 ls [.int r, .int r]) rfl ?_
  refine lv_icmp_eq (tgt := 1058) hx hb dL_law_796 (by decide) (fun _ => ?_) (fun cn => absurd rfl cn)
  exact hnext uP uL uG uR uT uC uA uK uW uI σP σL σG σR σT σC σA σK ω ι σ' ls H locs hrel' hl hP hD hS
set_option maxHeartbeats 4000000 in
set_option maxRecDepth 100000 in
theorem law_ear (Rel : Nat → MS → MS → MS → MS → MS → MS → MS → MS → (Nat → MS) → (Nat → MS) → MS → Prop) (hsim : Sim_ear Rel) {p : Program} {e : Env} {s : State} {m : MethodId} {below : List Frame} {meth : Method} {c : Code} {l : Launch} {b L : Nat} {xs : Nat → Int32} {D : va_G} {cI cB cR cM cJ cZ : ClassId} {t : Nat → Nat} (C0 : lw_At p s m meth c b L xs) (hKC : va_K D vwCl (ctys cI cB cR cM cJ) s) (hKM : va_K D vwCl [(cI, .int), (cZ, .boolean)] s) (hZ : ZZ t (fun q : Nat => s.heap.size ≤ q) s) (i kk : Nat) (hkk : kk < 512) (hi : i + 6 ≤ L) (hL : L ≤ 3072) (uM uP uL uG uR uT uC uA uK : Nat → Nat) (uW uI : Nat → Nat → Nat) (σP σL σG σR σT σC σA σK : MS) (ω ι : Nat → MS) (σ : MS) (ls : Array Slot) (H : Heap) (locs : List Loc) (hnext : ∀ (uP uL uG uR uT uC uA uK : Nat → Nat) (uW uI : Nat → Nat → Nat) (σP σL σG σR σT σC σA σK : MS) (ω ι : Nat → MS) (σ : MS) (ls : Array Slot) (H : Heap) (locs : List Loc), Rel (kk + 1) σP σL σG σR σT σC σA σK ω ι σ → lv_has ls 4 [(0, .ref b), (1, .ref (uP 0)), (2, .ref (uM 0)), (3, .int (nI i))] → va_P D vwCl ((pw uP uL uG uR uT uC uA uK uW uI cI cB cR cM cJ σP σL σG σR σT σC σA σK ω ι) ++ mw uM cI cZ σ) H → va_D (fun q : Nat => s.heap.size ≤ q) ((pw uP uL uG uR uT uC uA uK uW uI cI cB cR cM cJ σP σL σG σR σT σC σA σK ω ι) ++ mw uM cI cZ σ) → va_S (fun q : Nat => s.heap.size ≤ q) s.heap H locs → W p l e room_1 s m #[Value.ref b] below meth c H locs 86 8016 (lw_Z below #[Value.ref b] s) (F0 m 1058 ls [])) (hrel : Rel kk σP σL σG σR σT σC σA σK ω ι σ) (hl : lv_has ls 4 [(0, .ref b), (1, .ref (uP 0)), (2, .ref (uM 0)), (3, .int (nI i))]) (hP : va_P D vwCl ((pw uP uL uG uR uT uC uA uK uW uI cI cB cR cM cJ σP σL σG σR σT σC σA σK ω ι) ++ mw uM cI cZ σ) H) (hD : va_D (fun q : Nat => s.heap.size ≤ q) ((pw uP uL uG uR uT uC uA uK uW uI cI cB cR cM cJ σP σL σG σR σT σC σA σK ω ι) ++ mw uM cI cZ σ)) (hS : va_S (fun q : Nat => s.heap.size ≤ q) s.heap H locs) : W p l e room_1 s m #[Value.ref b] below meth c H locs 86 8016 (lw_Z below #[Value.ref b] s) (F0 m 801 ls []) := by
  obtain ⟨hx, hb, hr, hml, hown, hts, hX, hbl, hlocks, hgv⟩ := id C0
  have S : CallFix p m c cL_law 4 s #[Value.ref b] wsL_law RL := ⟨hx, hb, hml, hown, fun w h => hts w (wsL_law_in w h)⟩
  have hA : ∀ q : Nat, s.heap.size ≤ q → (fun q : Nat => s.heap.size ≤ q) q := fun _ h => h
  have hbA : ¬ (fun q : Nat => s.heap.size ≤ q) b := Nat.not_le.mpr hbl
  have hi1 : vp_in (nI i + 1) L := by rw [show nI i + 1 = nI (i + 1) from nI_add i 1]; exact vp_in_nI (by omega) (by omega)
  have hi2 : vp_in (nI i + 2) L := by rw [show nI i + 2 = nI (i + 2) from nI_add i 2]; exact vp_in_nI (by omega) (by omega)
  have hi3 : vp_in (nI i + 3) L := by rw [show nI i + 3 = nI (i + 3) from nI_add i 3]; exact vp_in_nI (by omega) (by omega)
  have hi4 : vp_in (nI i + 4) L := by rw [show nI i + 4 = nI (i + 4) from nI_add i 4]; exact vp_in_nI (by omega) (by omega)
  have hi5 : vp_in (nI i + 5) L := by rw [show nI i + 5 = nI (i + 5) from nI_add i 5]; exact vp_in_nI (by omega) (by omega)
  obtain ⟨r, σ', h1, h3, hrel'⟩ := hsim kk σP σL σG σR σT σC σA σK ω ι σ (xs (Int32.toNatClampNeg (nI i + 1))) (xs (Int32.toNatClampNeg (nI i + 2))) (xs (Int32.toNatClampNeg (nI i + 3))) (xs (Int32.toNatClampNeg (nI i + 4))) (xs (Int32.toNatClampNeg (nI i + 5))) hkk hrel
  refine lv_aload_n hx hb dL_law_801 rfl (lv_at hl 1 rfl) ?_
  refine lv_aload_n hx hb dL_law_802 rfl (lv_at hl 0 rfl) ?_
  refine lv_iload_n hx hb dL_law_803 rfl (lv_at hl 3 rfl) ?_
  refine lv_iconst (v := 1) hx hb dL_law_804 (by decide) ?_
  refine lv_iadd hx hb dL_law_805 ?_
  refine va_sld hx hb hX hbl hbA hS hi1 dL_law_806 ?_
  refine lv_aload_n hx hb dL_law_807 rfl (lv_at hl 0 rfl) ?_
  refine lv_iload_n hx hb dL_law_808 rfl (lv_at hl 3 rfl) ?_
  refine lv_iconst (v := 2) hx hb dL_law_809 (by decide) ?_
  refine lv_iadd hx hb dL_law_810 ?_
  refine va_sld hx hb hX hbl hbA hS hi2 dL_law_811 ?_
  refine lv_aload_n hx hb dL_law_812 rfl (lv_at hl 0 rfl) ?_
  refine lv_iload_n hx hb dL_law_813 rfl (lv_at hl 3 rfl) ?_
  refine lv_iconst (v := 3) hx hb dL_law_814 (by decide) ?_
  refine lv_iadd hx hb dL_law_815 ?_
  refine va_sld hx hb hX hbl hbA hS hi3 dL_law_816 ?_
  refine lv_aload_n hx hb dL_law_817 rfl (lv_at hl 0 rfl) ?_
  refine lv_iload_n hx hb dL_law_818 rfl (lv_at hl 3 rfl) ?_
  refine lv_iconst (v := 4) hx hb dL_law_819 (by decide) ?_
  refine lv_iadd hx hb dL_law_820 ?_
  refine va_sld hx hb hX hbl hbA hS hi4 dL_law_821 ?_
  refine lv_aload_n hx hb dL_law_822 rfl (lv_at hl 0 rfl) ?_
  refine lv_iload_n hx hb dL_law_823 rfl (lv_at hl 3 rfl) ?_
  refine lv_iconst (v := 5) hx hb dL_law_824 (by decide) ?_
  refine lv_iadd hx hb dL_law_825 ?_
  refine va_sld hx hb hX hbl hbA hS hi5 dL_law_826 ?_
  refine kl_c (ci := 7) (q0 := 0) (n := 5) (Rf := 2048) (Rl := 84000) S rfl rfl hKC hA hZ hP hD hS hl [.int (xs (Int32.toNatClampNeg (nI i + 1))), .int (xs (Int32.toNatClampNeg (nI i + 2))), .int (xs (Int32.toNatClampNeg (nI i + 3))), .int (xs (Int32.toNatClampNeg (nI i + 4))), .int (xs (Int32.toNatClampNeg (nI i + 5)))] [] (kP_ear l D uP uL uG uR uT uC uA uK uW uI cI cB cR cM cJ t σP σL σG σR σT σC σA σK ω ι (xs (Int32.toNatClampNeg (nI i + 1))) (xs (Int32.toNatClampNeg (nI i + 2))) (xs (Int32.toNatClampNeg (nI i + 3))) (xs (Int32.toNatClampNeg (nI i + 4))) (xs (Int32.toNatClampNeg (nI i + 5))) r h1) gL_law_X8_ear rfl (by decide +kernel) rfl ⟨by decide, by decide⟩ ⟨by decide, by decide⟩ rfl rfl rfl rfl (Nat.le_of_ble_eq_true rfl) dL_law_827 (fun H locs hP hD hS => ?_)
  refine W.eq (g2 := F0 m 830 ls [.int r]) rfl ?_
  refine lv_aload_n hx hb dL_law_830 rfl (lv_at hl 2 rfl) ?_
  refine lv_aload_n hx hb dL_law_831 rfl (lv_at hl 0 rfl) ?_
  refine lv_iload_n hx hb dL_law_832 rfl (lv_at hl 3 rfl) ?_
  refine lv_iconst (v := 1) hx hb dL_law_833 (by decide) ?_
  refine lv_iadd hx hb dL_law_834 ?_
  refine va_sld hx hb hX hbl hbA hS hi1 dL_law_835 ?_
  refine lv_aload_n hx hb dL_law_836 rfl (lv_at hl 0 rfl) ?_
  refine lv_iload_n hx hb dL_law_837 rfl (lv_at hl 3 rfl) ?_
  refine lv_iconst (v := 2) hx hb dL_law_838 (by decide) ?_
  refine lv_iadd hx hb dL_law_839 ?_
  refine va_sld hx hb hX hbl hbA hS hi2 dL_law_840 ?_
  refine lv_aload_n hx hb dL_law_841 rfl (lv_at hl 0 rfl) ?_
  refine lv_iload_n hx hb dL_law_842 rfl (lv_at hl 3 rfl) ?_
  refine lv_iconst (v := 3) hx hb dL_law_843 (by decide) ?_
  refine lv_iadd hx hb dL_law_844 ?_
  refine va_sld hx hb hX hbl hbA hS hi3 dL_law_845 ?_
  refine lv_aload_n hx hb dL_law_846 rfl (lv_at hl 0 rfl) ?_
  refine lv_iload_n hx hb dL_law_847 rfl (lv_at hl 3 rfl) ?_
  refine lv_iconst (v := 4) hx hb dL_law_848 (by decide) ?_
  refine lv_iadd hx hb dL_law_849 ?_
  refine va_sld hx hb hX hbl hbA hS hi4 dL_law_850 ?_
  refine lv_aload_n hx hb dL_law_851 rfl (lv_at hl 0 rfl) ?_
  refine lv_iload_n hx hb dL_law_852 rfl (lv_at hl 3 rfl) ?_
  refine lv_iconst (v := 5) hx hb dL_law_853 (by decide) ?_
  refine lv_iadd hx hb dL_law_854 ?_
  refine va_sld hx hb hX hbl hbA hS hi5 dL_law_855 ?_
  refine kl_m (ci := 8) (q0 := 0) (n := 5) (Rf := 2048) (Rl := 84000) S rfl rfl hKM hA hP hD hS hl [.int (xs (Int32.toNatClampNeg (nI i + 1))), .int (xs (Int32.toNatClampNeg (nI i + 2))), .int (xs (Int32.toNatClampNeg (nI i + 3))), .int (xs (Int32.toNatClampNeg (nI i + 4))), .int (xs (Int32.toNatClampNeg (nI i + 5)))] [.int r] (kM_ear l D uM cI cZ σ (xs (Int32.toNatClampNeg (nI i + 1))) (xs (Int32.toNatClampNeg (nI i + 2))) (xs (Int32.toNatClampNeg (nI i + 3))) (xs (Int32.toNatClampNeg (nI i + 4))) (xs (Int32.toNatClampNeg (nI i + 5))) r σ' h3) gL_law_X9_ear rfl (by decide +kernel) rfl ⟨by decide, by decide⟩ ⟨by decide, by decide⟩ rfl rfl rfl rfl (Nat.le_of_ble_eq_true rfl) dL_law_856 (fun H locs hP hD hS => ?_)
  refine W.eq (g2 := F0 m 859 ls [.int r, .int r]) rfl ?_
  refine lv_icmp_eq (tgt := 1058) hx hb dL_law_859 (by decide) (fun _ => ?_) (fun cn => absurd rfl cn)
  exact hnext uP uL uG uR uT uC uA uK uW uI σP σL σG σR σT σC σA σK ω ι σ' ls H locs hrel' hl hP hD hS
set_option maxHeartbeats 4000000 in
set_option maxRecDepth 100000 in
theorem law_image (Rel : Nat → MS → MS → MS → MS → MS → MS → MS → MS → (Nat → MS) → (Nat → MS) → MS → Prop) (hsim : Sim_image Rel) {p : Program} {e : Env} {s : State} {m : MethodId} {below : List Frame} {meth : Method} {c : Code} {l : Launch} {b L : Nat} {xs : Nat → Int32} {D : va_G} {cI cB cR cM cJ cZ : ClassId} {t : Nat → Nat} (C0 : lw_At p s m meth c b L xs) (hKC : va_K D vwCl (ctys cI cB cR cM cJ) s) (hKM : va_K D vwCl [(cI, .int), (cZ, .boolean)] s) (hZ : ZZ t (fun q : Nat => s.heap.size ≤ q) s) (i kk : Nat) (hkk : kk < 512) (hi : i + 6 ≤ L) (hL : L ≤ 3072) (uM uP uL uG uR uT uC uA uK : Nat → Nat) (uW uI : Nat → Nat → Nat) (σP σL σG σR σT σC σA σK : MS) (ω ι : Nat → MS) (σ : MS) (ls : Array Slot) (H : Heap) (locs : List Loc) (hnext : ∀ (uP uL uG uR uT uC uA uK : Nat → Nat) (uW uI : Nat → Nat → Nat) (σP σL σG σR σT σC σA σK : MS) (ω ι : Nat → MS) (σ : MS) (ls : Array Slot) (H : Heap) (locs : List Loc), Rel (kk + 1) σP σL σG σR σT σC σA σK ω ι σ → lv_has ls 4 [(0, .ref b), (1, .ref (uP 0)), (2, .ref (uM 0)), (3, .int (nI i))] → va_P D vwCl ((pw uP uL uG uR uT uC uA uK uW uI cI cB cR cM cJ σP σL σG σR σT σC σA σK ω ι) ++ mw uM cI cZ σ) H → va_D (fun q : Nat => s.heap.size ≤ q) ((pw uP uL uG uR uT uC uA uK uW uI cI cB cR cM cJ σP σL σG σR σT σC σA σK ω ι) ++ mw uM cI cZ σ) → va_S (fun q : Nat => s.heap.size ≤ q) s.heap H locs → W p l e room_1 s m #[Value.ref b] below meth c H locs 86 8016 (lw_Z below #[Value.ref b] s) (F0 m 1058 ls [])) (hrel : Rel kk σP σL σG σR σT σC σA σK ω ι σ) (hl : lv_has ls 4 [(0, .ref b), (1, .ref (uP 0)), (2, .ref (uM 0)), (3, .int (nI i))]) (hP : va_P D vwCl ((pw uP uL uG uR uT uC uA uK uW uI cI cB cR cM cJ σP σL σG σR σT σC σA σK ω ι) ++ mw uM cI cZ σ) H) (hD : va_D (fun q : Nat => s.heap.size ≤ q) ((pw uP uL uG uR uT uC uA uK uW uI cI cB cR cM cJ σP σL σG σR σT σC σA σK ω ι) ++ mw uM cI cZ σ)) (hS : va_S (fun q : Nat => s.heap.size ≤ q) s.heap H locs) : W p l e room_1 s m #[Value.ref b] below meth c H locs 86 8016 (lw_Z below #[Value.ref b] s) (F0 m 864 ls []) := by
  obtain ⟨hx, hb, hr, hml, hown, hts, hX, hbl, hlocks, hgv⟩ := id C0
  have S : CallFix p m c cL_law 4 s #[Value.ref b] wsL_law RL := ⟨hx, hb, hml, hown, fun w h => hts w (wsL_law_in w h)⟩
  have hA : ∀ q : Nat, s.heap.size ≤ q → (fun q : Nat => s.heap.size ≤ q) q := fun _ h => h
  have hbA : ¬ (fun q : Nat => s.heap.size ≤ q) b := Nat.not_le.mpr hbl
  have hi1 : vp_in (nI i + 1) L := by rw [show nI i + 1 = nI (i + 1) from nI_add i 1]; exact vp_in_nI (by omega) (by omega)
  obtain ⟨r, ι', σ', h1, h3, hrel'⟩ := hsim kk σP σL σG σR σT σC σA σK ω ι σ (xs (Int32.toNatClampNeg (nI i + 1))) hkk hrel
  refine lv_aload_n hx hb dL_law_864 rfl (lv_at hl 1 rfl) ?_
  refine lv_aload_n hx hb dL_law_865 rfl (lv_at hl 0 rfl) ?_
  refine lv_iload_n hx hb dL_law_866 rfl (lv_at hl 3 rfl) ?_
  refine lv_iconst (v := 1) hx hb dL_law_867 (by decide) ?_
  refine lv_iadd hx hb dL_law_868 ?_
  refine va_sld hx hb hX hbl hbA hS hi1 dL_law_869 ?_
  refine kl_c (ci := 7) (q0 := 0) (n := 1) (Rf := 2048) (Rl := 84000) S rfl rfl hKC hA hZ hP hD hS hl [.int (xs (Int32.toNatClampNeg (nI i + 1)))] [] (kP_image l D uP uL uG uR uT uC uA uK uW uI cI cB cR cM cJ t σP σL σG σR σT σC σA σK ω ι (xs (Int32.toNatClampNeg (nI i + 1))) r ι' h1) gL_law_X8_image rfl (by decide +kernel) rfl ⟨by decide, by decide⟩ ⟨by decide, by decide⟩ rfl rfl rfl rfl (Nat.le_of_ble_eq_true rfl) dL_law_870 (fun H locs hP hD hS => ?_)
  refine W.eq (g2 := F0 m 873 ls [.int r]) rfl ?_
  refine lv_aload_n hx hb dL_law_873 rfl (lv_at hl 2 rfl) ?_
  refine lv_aload_n hx hb dL_law_874 rfl (lv_at hl 0 rfl) ?_
  refine lv_iload_n hx hb dL_law_875 rfl (lv_at hl 3 rfl) ?_
  refine lv_iconst (v := 1) hx hb dL_law_876 (by decide) ?_
  refine lv_iadd hx hb dL_law_877 ?_
  refine va_sld hx hb hX hbl hbA hS hi1 dL_law_878 ?_
  refine kl_m (ci := 8) (q0 := 0) (n := 1) (Rf := 2048) (Rl := 84000) S rfl rfl hKM hA hP hD hS hl [.int (xs (Int32.toNatClampNeg (nI i + 1)))] [.int r] (kM_image l D uM cI cZ σ (xs (Int32.toNatClampNeg (nI i + 1))) r σ' h3) gL_law_X9_image rfl (by decide +kernel) rfl ⟨by decide, by decide⟩ ⟨by decide, by decide⟩ rfl rfl rfl rfl (Nat.le_of_ble_eq_true rfl) dL_law_879 (fun H locs hP hD hS => ?_)
  refine W.eq (g2 := F0 m 882 ls [.int r, .int r]) rfl ?_
  refine lv_icmp_eq (tgt := 1058) hx hb dL_law_882 (by decide) (fun _ => ?_) (fun cn => absurd rfl cn)
  exact hnext uP uL uG uR uT uC uA uK uW uI σP σL σG σR σT σC σA σK ω ι' σ' ls H locs hrel' hl hP hD hS
set_option maxHeartbeats 4000000 in
set_option maxRecDepth 100000 in
theorem law_restore (Rel : Nat → MS → MS → MS → MS → MS → MS → MS → MS → (Nat → MS) → (Nat → MS) → MS → Prop) (hsim : Sim_restore Rel) {p : Program} {e : Env} {s : State} {m : MethodId} {below : List Frame} {meth : Method} {c : Code} {l : Launch} {b L : Nat} {xs : Nat → Int32} {D : va_G} {cI cB cR cM cJ cZ : ClassId} {t : Nat → Nat} (C0 : lw_At p s m meth c b L xs) (hKC : va_K D vwCl (ctys cI cB cR cM cJ) s) (hKM : va_K D vwCl [(cI, .int), (cZ, .boolean)] s) (hZ : ZZ t (fun q : Nat => s.heap.size ≤ q) s) (i kk : Nat) (hkk : kk < 512) (hi : i + 6 ≤ L) (hL : L ≤ 3072) (uM uP uL uG uR uT uC uA uK : Nat → Nat) (uW uI : Nat → Nat → Nat) (σP σL σG σR σT σC σA σK : MS) (ω ι : Nat → MS) (σ : MS) (ls : Array Slot) (H : Heap) (locs : List Loc) (hnext : ∀ (uP uL uG uR uT uC uA uK : Nat → Nat) (uW uI : Nat → Nat → Nat) (σP σL σG σR σT σC σA σK : MS) (ω ι : Nat → MS) (σ : MS) (ls : Array Slot) (H : Heap) (locs : List Loc), Rel (kk + 1) σP σL σG σR σT σC σA σK ω ι σ → lv_has ls 4 [(0, .ref b), (1, .ref (uP 0)), (2, .ref (uM 0)), (3, .int (nI i))] → va_P D vwCl ((pw uP uL uG uR uT uC uA uK uW uI cI cB cR cM cJ σP σL σG σR σT σC σA σK ω ι) ++ mw uM cI cZ σ) H → va_D (fun q : Nat => s.heap.size ≤ q) ((pw uP uL uG uR uT uC uA uK uW uI cI cB cR cM cJ σP σL σG σR σT σC σA σK ω ι) ++ mw uM cI cZ σ) → va_S (fun q : Nat => s.heap.size ≤ q) s.heap H locs → W p l e room_1 s m #[Value.ref b] below meth c H locs 86 8016 (lw_Z below #[Value.ref b] s) (F0 m 1058 ls [])) (hrel : Rel kk σP σL σG σR σT σC σA σK ω ι σ) (hl : lv_has ls 4 [(0, .ref b), (1, .ref (uP 0)), (2, .ref (uM 0)), (3, .int (nI i))]) (hP : va_P D vwCl ((pw uP uL uG uR uT uC uA uK uW uI cI cB cR cM cJ σP σL σG σR σT σC σA σK ω ι) ++ mw uM cI cZ σ) H) (hD : va_D (fun q : Nat => s.heap.size ≤ q) ((pw uP uL uG uR uT uC uA uK uW uI cI cB cR cM cJ σP σL σG σR σT σC σA σK ω ι) ++ mw uM cI cZ σ)) (hS : va_S (fun q : Nat => s.heap.size ≤ q) s.heap H locs) : W p l e room_1 s m #[Value.ref b] below meth c H locs 86 8016 (lw_Z below #[Value.ref b] s) (F0 m 887 ls []) := by
  obtain ⟨hx, hb, hr, hml, hown, hts, hX, hbl, hlocks, hgv⟩ := id C0
  have S : CallFix p m c cL_law 4 s #[Value.ref b] wsL_law RL := ⟨hx, hb, hml, hown, fun w h => hts w (wsL_law_in w h)⟩
  have hA : ∀ q : Nat, s.heap.size ≤ q → (fun q : Nat => s.heap.size ≤ q) q := fun _ h => h
  have hbA : ¬ (fun q : Nat => s.heap.size ≤ q) b := Nat.not_le.mpr hbl
  have hi1 : vp_in (nI i + 1) L := by rw [show nI i + 1 = nI (i + 1) from nI_add i 1]; exact vp_in_nI (by omega) (by omega)
  obtain ⟨r, σL', σK', σ', h1, h3, hrel'⟩ := hsim kk σP σL σG σR σT σC σA σK ω ι σ (xs (Int32.toNatClampNeg (nI i + 1))) hkk hrel
  refine lv_aload_n hx hb dL_law_887 rfl (lv_at hl 1 rfl) ?_
  refine lv_aload_n hx hb dL_law_888 rfl (lv_at hl 0 rfl) ?_
  refine lv_iload_n hx hb dL_law_889 rfl (lv_at hl 3 rfl) ?_
  refine lv_iconst (v := 1) hx hb dL_law_890 (by decide) ?_
  refine lv_iadd hx hb dL_law_891 ?_
  refine va_sld hx hb hX hbl hbA hS hi1 dL_law_892 ?_
  refine kl_c (ci := 7) (q0 := 0) (n := 1) (Rf := 2048) (Rl := 84000) S rfl rfl hKC hA hZ hP hD hS hl [.int (xs (Int32.toNatClampNeg (nI i + 1)))] [] (kP_restore l D uP uL uG uR uT uC uA uK uW uI cI cB cR cM cJ t σP σL σG σR σT σC σA σK ω ι (xs (Int32.toNatClampNeg (nI i + 1))) r σL' σK' h1) gL_law_X8_restore rfl (by decide +kernel) rfl ⟨by decide, by decide⟩ ⟨by decide, by decide⟩ rfl rfl rfl rfl (Nat.le_of_ble_eq_true rfl) dL_law_893 (fun H locs hP hD hS => ?_)
  refine W.eq (g2 := F0 m 896 ls [.int r]) rfl ?_
  refine lv_aload_n hx hb dL_law_896 rfl (lv_at hl 2 rfl) ?_
  refine lv_aload_n hx hb dL_law_897 rfl (lv_at hl 0 rfl) ?_
  refine lv_iload_n hx hb dL_law_898 rfl (lv_at hl 3 rfl) ?_
  refine lv_iconst (v := 1) hx hb dL_law_899 (by decide) ?_
  refine lv_iadd hx hb dL_law_900 ?_
  refine va_sld hx hb hX hbl hbA hS hi1 dL_law_901 ?_
  refine kl_m (ci := 8) (q0 := 0) (n := 1) (Rf := 2048) (Rl := 84000) S rfl rfl hKM hA hP hD hS hl [.int (xs (Int32.toNatClampNeg (nI i + 1)))] [.int r] (kM_restore l D uM cI cZ σ (xs (Int32.toNatClampNeg (nI i + 1))) r σ' h3) gL_law_X9_restore rfl (by decide +kernel) rfl ⟨by decide, by decide⟩ ⟨by decide, by decide⟩ rfl rfl rfl rfl (Nat.le_of_ble_eq_true rfl) dL_law_902 (fun H locs hP hD hS => ?_)
  refine W.eq (g2 := F0 m 905 ls [.int r, .int r]) rfl ?_
  refine lv_icmp_eq (tgt := 1058) hx hb dL_law_905 (by decide) (fun _ => ?_) (fun cn => absurd rfl cn)
  exact hnext uP uL uG uR uT uC uA uK uW uI σP σL' σG σR σT σC σA σK' ω ι σ' ls H locs hrel' hl hP hD hS
set_option maxHeartbeats 4000000 in
set_option maxRecDepth 100000 in
theorem law_kind (Rel : Nat → MS → MS → MS → MS → MS → MS → MS → MS → (Nat → MS) → (Nat → MS) → MS → Prop) (hsim : Sim_kind Rel) {p : Program} {e : Env} {s : State} {m : MethodId} {below : List Frame} {meth : Method} {c : Code} {l : Launch} {b L : Nat} {xs : Nat → Int32} {D : va_G} {cI cB cR cM cJ cZ : ClassId} {t : Nat → Nat} (C0 : lw_At p s m meth c b L xs) (hKC : va_K D vwCl (ctys cI cB cR cM cJ) s) (hKM : va_K D vwCl [(cI, .int), (cZ, .boolean)] s) (hZ : ZZ t (fun q : Nat => s.heap.size ≤ q) s) (i kk : Nat) (hkk : kk < 512) (hi : i + 6 ≤ L) (hL : L ≤ 3072) (uM uP uL uG uR uT uC uA uK : Nat → Nat) (uW uI : Nat → Nat → Nat) (σP σL σG σR σT σC σA σK : MS) (ω ι : Nat → MS) (σ : MS) (ls : Array Slot) (H : Heap) (locs : List Loc) (hnext : ∀ (uP uL uG uR uT uC uA uK : Nat → Nat) (uW uI : Nat → Nat → Nat) (σP σL σG σR σT σC σA σK : MS) (ω ι : Nat → MS) (σ : MS) (ls : Array Slot) (H : Heap) (locs : List Loc), Rel (kk + 1) σP σL σG σR σT σC σA σK ω ι σ → lv_has ls 4 [(0, .ref b), (1, .ref (uP 0)), (2, .ref (uM 0)), (3, .int (nI i))] → va_P D vwCl ((pw uP uL uG uR uT uC uA uK uW uI cI cB cR cM cJ σP σL σG σR σT σC σA σK ω ι) ++ mw uM cI cZ σ) H → va_D (fun q : Nat => s.heap.size ≤ q) ((pw uP uL uG uR uT uC uA uK uW uI cI cB cR cM cJ σP σL σG σR σT σC σA σK ω ι) ++ mw uM cI cZ σ) → va_S (fun q : Nat => s.heap.size ≤ q) s.heap H locs → W p l e room_1 s m #[Value.ref b] below meth c H locs 86 8016 (lw_Z below #[Value.ref b] s) (F0 m 1058 ls [])) (hrel : Rel kk σP σL σG σR σT σC σA σK ω ι σ) (hl : lv_has ls 4 [(0, .ref b), (1, .ref (uP 0)), (2, .ref (uM 0)), (3, .int (nI i))]) (hP : va_P D vwCl ((pw uP uL uG uR uT uC uA uK uW uI cI cB cR cM cJ σP σL σG σR σT σC σA σK ω ι) ++ mw uM cI cZ σ) H) (hD : va_D (fun q : Nat => s.heap.size ≤ q) ((pw uP uL uG uR uT uC uA uK uW uI cI cB cR cM cJ σP σL σG σR σT σC σA σK ω ι) ++ mw uM cI cZ σ)) (hS : va_S (fun q : Nat => s.heap.size ≤ q) s.heap H locs) : W p l e room_1 s m #[Value.ref b] below meth c H locs 86 8016 (lw_Z below #[Value.ref b] s) (F0 m 910 ls []) := by
  obtain ⟨hx, hb, hr, hml, hown, hts, hX, hbl, hlocks, hgv⟩ := id C0
  have S : CallFix p m c cL_law 4 s #[Value.ref b] wsL_law RL := ⟨hx, hb, hml, hown, fun w h => hts w (wsL_law_in w h)⟩
  have hA : ∀ q : Nat, s.heap.size ≤ q → (fun q : Nat => s.heap.size ≤ q) q := fun _ h => h
  have hbA : ¬ (fun q : Nat => s.heap.size ≤ q) b := Nat.not_le.mpr hbl
  have hi1 : vp_in (nI i + 1) L := by rw [show nI i + 1 = nI (i + 1) from nI_add i 1]; exact vp_in_nI (by omega) (by omega)
  obtain ⟨r, σ', h1, h3, hrel'⟩ := hsim kk σP σL σG σR σT σC σA σK ω ι σ (xs (Int32.toNatClampNeg (nI i + 1))) hkk hrel
  refine lv_aload_n hx hb dL_law_910 rfl (lv_at hl 1 rfl) ?_
  refine lv_aload_n hx hb dL_law_911 rfl (lv_at hl 0 rfl) ?_
  refine lv_iload_n hx hb dL_law_912 rfl (lv_at hl 3 rfl) ?_
  refine lv_iconst (v := 1) hx hb dL_law_913 (by decide) ?_
  refine lv_iadd hx hb dL_law_914 ?_
  refine va_sld hx hb hX hbl hbA hS hi1 dL_law_915 ?_
  refine kl_c (ci := 7) (q0 := 0) (n := 1) (Rf := 2048) (Rl := 84000) S rfl rfl hKC hA hZ hP hD hS hl [.int (xs (Int32.toNatClampNeg (nI i + 1)))] [] (kP_kind l D uP uL uG uR uT uC uA uK uW uI cI cB cR cM cJ t σP σL σG σR σT σC σA σK ω ι (xs (Int32.toNatClampNeg (nI i + 1))) r h1) gL_law_X8_kind rfl (by decide +kernel) rfl ⟨by decide, by decide⟩ ⟨by decide, by decide⟩ rfl rfl rfl rfl (Nat.le_of_ble_eq_true rfl) dL_law_916 (fun H locs hP hD hS => ?_)
  refine W.eq (g2 := F0 m 919 ls [.int r]) rfl ?_
  refine lv_aload_n hx hb dL_law_919 rfl (lv_at hl 2 rfl) ?_
  refine lv_aload_n hx hb dL_law_920 rfl (lv_at hl 0 rfl) ?_
  refine lv_iload_n hx hb dL_law_921 rfl (lv_at hl 3 rfl) ?_
  refine lv_iconst (v := 1) hx hb dL_law_922 (by decide) ?_
  refine lv_iadd hx hb dL_law_923 ?_
  refine va_sld hx hb hX hbl hbA hS hi1 dL_law_924 ?_
  refine kl_m (ci := 8) (q0 := 0) (n := 1) (Rf := 2048) (Rl := 84000) S rfl rfl hKM hA hP hD hS hl [.int (xs (Int32.toNatClampNeg (nI i + 1)))] [.int r] (kM_kind l D uM cI cZ σ (xs (Int32.toNatClampNeg (nI i + 1))) r σ' h3) gL_law_X9_kind rfl (by decide +kernel) rfl ⟨by decide, by decide⟩ ⟨by decide, by decide⟩ rfl rfl rfl rfl (Nat.le_of_ble_eq_true rfl) dL_law_925 (fun H locs hP hD hS => ?_)
  refine W.eq (g2 := F0 m 928 ls [.int r, .int r]) rfl ?_
  refine lv_icmp_eq (tgt := 1058) hx hb dL_law_928 (by decide) (fun _ => ?_) (fun cn => absurd rfl cn)
  exact hnext uP uL uG uR uT uC uA uK uW uI σP σL σG σR σT σC σA σK ω ι σ' ls H locs hrel' hl hP hD hS
set_option maxHeartbeats 4000000 in
set_option maxRecDepth 100000 in
theorem law_as (Rel : Nat → MS → MS → MS → MS → MS → MS → MS → MS → (Nat → MS) → (Nat → MS) → MS → Prop) (hsim : Sim_as Rel) {p : Program} {e : Env} {s : State} {m : MethodId} {below : List Frame} {meth : Method} {c : Code} {l : Launch} {b L : Nat} {xs : Nat → Int32} {D : va_G} {cI cB cR cM cJ cZ : ClassId} {t : Nat → Nat} (C0 : lw_At p s m meth c b L xs) (hKC : va_K D vwCl (ctys cI cB cR cM cJ) s) (hKM : va_K D vwCl [(cI, .int), (cZ, .boolean)] s) (hZ : ZZ t (fun q : Nat => s.heap.size ≤ q) s) (i kk : Nat) (hkk : kk < 512) (hi : i + 6 ≤ L) (hL : L ≤ 3072) (uM uP uL uG uR uT uC uA uK : Nat → Nat) (uW uI : Nat → Nat → Nat) (σP σL σG σR σT σC σA σK : MS) (ω ι : Nat → MS) (σ : MS) (ls : Array Slot) (H : Heap) (locs : List Loc) (hnext : ∀ (uP uL uG uR uT uC uA uK : Nat → Nat) (uW uI : Nat → Nat → Nat) (σP σL σG σR σT σC σA σK : MS) (ω ι : Nat → MS) (σ : MS) (ls : Array Slot) (H : Heap) (locs : List Loc), Rel (kk + 1) σP σL σG σR σT σC σA σK ω ι σ → lv_has ls 4 [(0, .ref b), (1, .ref (uP 0)), (2, .ref (uM 0)), (3, .int (nI i))] → va_P D vwCl ((pw uP uL uG uR uT uC uA uK uW uI cI cB cR cM cJ σP σL σG σR σT σC σA σK ω ι) ++ mw uM cI cZ σ) H → va_D (fun q : Nat => s.heap.size ≤ q) ((pw uP uL uG uR uT uC uA uK uW uI cI cB cR cM cJ σP σL σG σR σT σC σA σK ω ι) ++ mw uM cI cZ σ) → va_S (fun q : Nat => s.heap.size ≤ q) s.heap H locs → W p l e room_1 s m #[Value.ref b] below meth c H locs 86 8016 (lw_Z below #[Value.ref b] s) (F0 m 1058 ls [])) (hrel : Rel kk σP σL σG σR σT σC σA σK ω ι σ) (hl : lv_has ls 4 [(0, .ref b), (1, .ref (uP 0)), (2, .ref (uM 0)), (3, .int (nI i))]) (hP : va_P D vwCl ((pw uP uL uG uR uT uC uA uK uW uI cI cB cR cM cJ σP σL σG σR σT σC σA σK ω ι) ++ mw uM cI cZ σ) H) (hD : va_D (fun q : Nat => s.heap.size ≤ q) ((pw uP uL uG uR uT uC uA uK uW uI cI cB cR cM cJ σP σL σG σR σT σC σA σK ω ι) ++ mw uM cI cZ σ)) (hS : va_S (fun q : Nat => s.heap.size ≤ q) s.heap H locs) : W p l e room_1 s m #[Value.ref b] below meth c H locs 86 8016 (lw_Z below #[Value.ref b] s) (F0 m 933 ls []) := by
  obtain ⟨hx, hb, hr, hml, hown, hts, hX, hbl, hlocks, hgv⟩ := id C0
  have S : CallFix p m c cL_law 4 s #[Value.ref b] wsL_law RL := ⟨hx, hb, hml, hown, fun w h => hts w (wsL_law_in w h)⟩
  have hA : ∀ q : Nat, s.heap.size ≤ q → (fun q : Nat => s.heap.size ≤ q) q := fun _ h => h
  have hbA : ¬ (fun q : Nat => s.heap.size ≤ q) b := Nat.not_le.mpr hbl
  have hi1 : vp_in (nI i + 1) L := by rw [show nI i + 1 = nI (i + 1) from nI_add i 1]; exact vp_in_nI (by omega) (by omega)
  have hi2 : vp_in (nI i + 2) L := by rw [show nI i + 2 = nI (i + 2) from nI_add i 2]; exact vp_in_nI (by omega) (by omega)
  obtain ⟨r, σP', σ', h1, h3, hrel'⟩ := hsim kk σP σL σG σR σT σC σA σK ω ι σ (xs (Int32.toNatClampNeg (nI i + 1))) (xs (Int32.toNatClampNeg (nI i + 2))) hkk hrel
  refine lv_aload_n hx hb dL_law_933 rfl (lv_at hl 1 rfl) ?_
  refine lv_aload_n hx hb dL_law_934 rfl (lv_at hl 0 rfl) ?_
  refine lv_iload_n hx hb dL_law_935 rfl (lv_at hl 3 rfl) ?_
  refine lv_iconst (v := 1) hx hb dL_law_936 (by decide) ?_
  refine lv_iadd hx hb dL_law_937 ?_
  refine va_sld hx hb hX hbl hbA hS hi1 dL_law_938 ?_
  refine lv_aload_n hx hb dL_law_939 rfl (lv_at hl 0 rfl) ?_
  refine lv_iload_n hx hb dL_law_940 rfl (lv_at hl 3 rfl) ?_
  refine lv_iconst (v := 2) hx hb dL_law_941 (by decide) ?_
  refine lv_iadd hx hb dL_law_942 ?_
  refine va_sld hx hb hX hbl hbA hS hi2 dL_law_943 ?_
  refine kl_c (ci := 7) (q0 := 0) (n := 2) (Rf := 2048) (Rl := 84000) S rfl rfl hKC hA hZ hP hD hS hl [.int (xs (Int32.toNatClampNeg (nI i + 1))), .int (xs (Int32.toNatClampNeg (nI i + 2)))] [] (kP_as l D uP uL uG uR uT uC uA uK uW uI cI cB cR cM cJ t σP σL σG σR σT σC σA σK ω ι (xs (Int32.toNatClampNeg (nI i + 1))) (xs (Int32.toNatClampNeg (nI i + 2))) r σP' h1) gL_law_X8_as rfl (by decide +kernel) rfl ⟨by decide, by decide⟩ ⟨by decide, by decide⟩ rfl rfl rfl rfl (Nat.le_of_ble_eq_true rfl) dL_law_944 (fun H locs hP hD hS => ?_)
  refine W.eq (g2 := F0 m 947 ls [.int r]) rfl ?_
  refine lv_aload_n hx hb dL_law_947 rfl (lv_at hl 2 rfl) ?_
  refine lv_aload_n hx hb dL_law_948 rfl (lv_at hl 0 rfl) ?_
  refine lv_iload_n hx hb dL_law_949 rfl (lv_at hl 3 rfl) ?_
  refine lv_iconst (v := 1) hx hb dL_law_950 (by decide) ?_
  refine lv_iadd hx hb dL_law_951 ?_
  refine va_sld hx hb hX hbl hbA hS hi1 dL_law_952 ?_
  refine lv_aload_n hx hb dL_law_953 rfl (lv_at hl 0 rfl) ?_
  refine lv_iload_n hx hb dL_law_954 rfl (lv_at hl 3 rfl) ?_
  refine lv_iconst (v := 2) hx hb dL_law_955 (by decide) ?_
  refine lv_iadd hx hb dL_law_956 ?_
  refine va_sld hx hb hX hbl hbA hS hi2 dL_law_957 ?_
  refine kl_m (ci := 8) (q0 := 0) (n := 2) (Rf := 2048) (Rl := 84000) S rfl rfl hKM hA hP hD hS hl [.int (xs (Int32.toNatClampNeg (nI i + 1))), .int (xs (Int32.toNatClampNeg (nI i + 2)))] [.int r] (kM_as l D uM cI cZ σ (xs (Int32.toNatClampNeg (nI i + 1))) (xs (Int32.toNatClampNeg (nI i + 2))) r σ' h3) gL_law_X9_as rfl (by decide +kernel) rfl ⟨by decide, by decide⟩ ⟨by decide, by decide⟩ rfl rfl rfl rfl (Nat.le_of_ble_eq_true rfl) dL_law_958 (fun H locs hP hD hS => ?_)
  refine W.eq (g2 := F0 m 961 ls [.int r, .int r]) rfl ?_
  refine lv_icmp_eq (tgt := 1058) hx hb dL_law_961 (by decide) (fun _ => ?_) (fun cn => absurd rfl cn)
  exact hnext uP uL uG uR uT uC uA uK uW uI σP' σL σG σR σT σC σA σK ω ι σ' ls H locs hrel' hl hP hD hS
set_option maxHeartbeats 4000000 in
set_option maxRecDepth 100000 in
theorem law_ask (Rel : Nat → MS → MS → MS → MS → MS → MS → MS → MS → (Nat → MS) → (Nat → MS) → MS → Prop) (hsim : Sim_ask Rel) {p : Program} {e : Env} {s : State} {m : MethodId} {below : List Frame} {meth : Method} {c : Code} {l : Launch} {b L : Nat} {xs : Nat → Int32} {D : va_G} {cI cB cR cM cJ cZ : ClassId} {t : Nat → Nat} (C0 : lw_At p s m meth c b L xs) (hKC : va_K D vwCl (ctys cI cB cR cM cJ) s) (hKM : va_K D vwCl [(cI, .int), (cZ, .boolean)] s) (hZ : ZZ t (fun q : Nat => s.heap.size ≤ q) s) (i kk : Nat) (hkk : kk < 512) (hi : i + 6 ≤ L) (hL : L ≤ 3072) (uM uP uL uG uR uT uC uA uK : Nat → Nat) (uW uI : Nat → Nat → Nat) (σP σL σG σR σT σC σA σK : MS) (ω ι : Nat → MS) (σ : MS) (ls : Array Slot) (H : Heap) (locs : List Loc) (hnext : ∀ (uP uL uG uR uT uC uA uK : Nat → Nat) (uW uI : Nat → Nat → Nat) (σP σL σG σR σT σC σA σK : MS) (ω ι : Nat → MS) (σ : MS) (ls : Array Slot) (H : Heap) (locs : List Loc), Rel (kk + 1) σP σL σG σR σT σC σA σK ω ι σ → lv_has ls 4 [(0, .ref b), (1, .ref (uP 0)), (2, .ref (uM 0)), (3, .int (nI i))] → va_P D vwCl ((pw uP uL uG uR uT uC uA uK uW uI cI cB cR cM cJ σP σL σG σR σT σC σA σK ω ι) ++ mw uM cI cZ σ) H → va_D (fun q : Nat => s.heap.size ≤ q) ((pw uP uL uG uR uT uC uA uK uW uI cI cB cR cM cJ σP σL σG σR σT σC σA σK ω ι) ++ mw uM cI cZ σ) → va_S (fun q : Nat => s.heap.size ≤ q) s.heap H locs → W p l e room_1 s m #[Value.ref b] below meth c H locs 86 8016 (lw_Z below #[Value.ref b] s) (F0 m 1058 ls [])) (hrel : Rel kk σP σL σG σR σT σC σA σK ω ι σ) (hl : lv_has ls 4 [(0, .ref b), (1, .ref (uP 0)), (2, .ref (uM 0)), (3, .int (nI i))]) (hP : va_P D vwCl ((pw uP uL uG uR uT uC uA uK uW uI cI cB cR cM cJ σP σL σG σR σT σC σA σK ω ι) ++ mw uM cI cZ σ) H) (hD : va_D (fun q : Nat => s.heap.size ≤ q) ((pw uP uL uG uR uT uC uA uK uW uI cI cB cR cM cJ σP σL σG σR σT σC σA σK ω ι) ++ mw uM cI cZ σ)) (hS : va_S (fun q : Nat => s.heap.size ≤ q) s.heap H locs) : W p l e room_1 s m #[Value.ref b] below meth c H locs 86 8016 (lw_Z below #[Value.ref b] s) (F0 m 966 ls []) := by
  obtain ⟨hx, hb, hr, hml, hown, hts, hX, hbl, hlocks, hgv⟩ := id C0
  have S : CallFix p m c cL_law 4 s #[Value.ref b] wsL_law RL := ⟨hx, hb, hml, hown, fun w h => hts w (wsL_law_in w h)⟩
  have hA : ∀ q : Nat, s.heap.size ≤ q → (fun q : Nat => s.heap.size ≤ q) q := fun _ h => h
  have hbA : ¬ (fun q : Nat => s.heap.size ≤ q) b := Nat.not_le.mpr hbl
  have hi1 : vp_in (nI i + 1) L := by rw [show nI i + 1 = nI (i + 1) from nI_add i 1]; exact vp_in_nI (by omega) (by omega)
  have hi2 : vp_in (nI i + 2) L := by rw [show nI i + 2 = nI (i + 2) from nI_add i 2]; exact vp_in_nI (by omega) (by omega)
  obtain ⟨r, σA', σ', h1, h3, hrel'⟩ := hsim kk σP σL σG σR σT σC σA σK ω ι σ (xs (Int32.toNatClampNeg (nI i + 1))) (xs (Int32.toNatClampNeg (nI i + 2))) hkk hrel
  refine lv_aload_n hx hb dL_law_966 rfl (lv_at hl 1 rfl) ?_
  refine lv_aload_n hx hb dL_law_967 rfl (lv_at hl 0 rfl) ?_
  refine lv_iload_n hx hb dL_law_968 rfl (lv_at hl 3 rfl) ?_
  refine lv_iconst (v := 1) hx hb dL_law_969 (by decide) ?_
  refine lv_iadd hx hb dL_law_970 ?_
  refine va_sld hx hb hX hbl hbA hS hi1 dL_law_971 ?_
  refine lv_aload_n hx hb dL_law_972 rfl (lv_at hl 0 rfl) ?_
  refine lv_iload_n hx hb dL_law_973 rfl (lv_at hl 3 rfl) ?_
  refine lv_iconst (v := 2) hx hb dL_law_974 (by decide) ?_
  refine lv_iadd hx hb dL_law_975 ?_
  refine va_sld hx hb hX hbl hbA hS hi2 dL_law_976 ?_
  refine kl_c (ci := 7) (q0 := 0) (n := 2) (Rf := 2048) (Rl := 84000) S rfl rfl hKC hA hZ hP hD hS hl [.int (xs (Int32.toNatClampNeg (nI i + 1))), .int (xs (Int32.toNatClampNeg (nI i + 2)))] [] (kP_ask l D uP uL uG uR uT uC uA uK uW uI cI cB cR cM cJ t σP σL σG σR σT σC σA σK ω ι (xs (Int32.toNatClampNeg (nI i + 1))) (xs (Int32.toNatClampNeg (nI i + 2))) r σA' h1) gL_law_X8_ask rfl (by decide +kernel) rfl ⟨by decide, by decide⟩ ⟨by decide, by decide⟩ rfl rfl rfl rfl (Nat.le_of_ble_eq_true rfl) dL_law_977 (fun H locs hP hD hS => ?_)
  refine W.eq (g2 := F0 m 980 ls [.int r]) rfl ?_
  refine lv_aload_n hx hb dL_law_980 rfl (lv_at hl 2 rfl) ?_
  refine lv_aload_n hx hb dL_law_981 rfl (lv_at hl 0 rfl) ?_
  refine lv_iload_n hx hb dL_law_982 rfl (lv_at hl 3 rfl) ?_
  refine lv_iconst (v := 1) hx hb dL_law_983 (by decide) ?_
  refine lv_iadd hx hb dL_law_984 ?_
  refine va_sld hx hb hX hbl hbA hS hi1 dL_law_985 ?_
  refine lv_aload_n hx hb dL_law_986 rfl (lv_at hl 0 rfl) ?_
  refine lv_iload_n hx hb dL_law_987 rfl (lv_at hl 3 rfl) ?_
  refine lv_iconst (v := 2) hx hb dL_law_988 (by decide) ?_
  refine lv_iadd hx hb dL_law_989 ?_
  refine va_sld hx hb hX hbl hbA hS hi2 dL_law_990 ?_
  refine kl_m (ci := 8) (q0 := 0) (n := 2) (Rf := 2048) (Rl := 84000) S rfl rfl hKM hA hP hD hS hl [.int (xs (Int32.toNatClampNeg (nI i + 1))), .int (xs (Int32.toNatClampNeg (nI i + 2)))] [.int r] (kM_ask l D uM cI cZ σ (xs (Int32.toNatClampNeg (nI i + 1))) (xs (Int32.toNatClampNeg (nI i + 2))) r σ' h3) gL_law_X9_ask rfl (by decide +kernel) rfl ⟨by decide, by decide⟩ ⟨by decide, by decide⟩ rfl rfl rfl rfl (Nat.le_of_ble_eq_true rfl) dL_law_991 (fun H locs hP hD hS => ?_)
  refine W.eq (g2 := F0 m 994 ls [.int r, .int r]) rfl ?_
  refine lv_icmp_eq (tgt := 1058) hx hb dL_law_994 (by decide) (fun _ => ?_) (fun cn => absurd rfl cn)
  exact hnext uP uL uG uR uT uC uA uK uW uI σP σL σG σR σT σC σA' σK ω ι σ' ls H locs hrel' hl hP hD hS
set_option maxHeartbeats 4000000 in
set_option maxRecDepth 100000 in
theorem law_trace (Rel : Nat → MS → MS → MS → MS → MS → MS → MS → MS → (Nat → MS) → (Nat → MS) → MS → Prop) (hsim : Sim_trace Rel) {p : Program} {e : Env} {s : State} {m : MethodId} {below : List Frame} {meth : Method} {c : Code} {l : Launch} {b L : Nat} {xs : Nat → Int32} {D : va_G} {cI cB cR cM cJ cZ : ClassId} {t : Nat → Nat} (C0 : lw_At p s m meth c b L xs) (hKC : va_K D vwCl (ctys cI cB cR cM cJ) s) (hKM : va_K D vwCl [(cI, .int), (cZ, .boolean)] s) (hZ : ZZ t (fun q : Nat => s.heap.size ≤ q) s) (i kk : Nat) (hkk : kk < 512) (hi : i + 6 ≤ L) (hL : L ≤ 3072) (uM uP uL uG uR uT uC uA uK : Nat → Nat) (uW uI : Nat → Nat → Nat) (σP σL σG σR σT σC σA σK : MS) (ω ι : Nat → MS) (σ : MS) (ls : Array Slot) (H : Heap) (locs : List Loc) (hnext : ∀ (uP uL uG uR uT uC uA uK : Nat → Nat) (uW uI : Nat → Nat → Nat) (σP σL σG σR σT σC σA σK : MS) (ω ι : Nat → MS) (σ : MS) (ls : Array Slot) (H : Heap) (locs : List Loc), Rel (kk + 1) σP σL σG σR σT σC σA σK ω ι σ → lv_has ls 4 [(0, .ref b), (1, .ref (uP 0)), (2, .ref (uM 0)), (3, .int (nI i))] → va_P D vwCl ((pw uP uL uG uR uT uC uA uK uW uI cI cB cR cM cJ σP σL σG σR σT σC σA σK ω ι) ++ mw uM cI cZ σ) H → va_D (fun q : Nat => s.heap.size ≤ q) ((pw uP uL uG uR uT uC uA uK uW uI cI cB cR cM cJ σP σL σG σR σT σC σA σK ω ι) ++ mw uM cI cZ σ) → va_S (fun q : Nat => s.heap.size ≤ q) s.heap H locs → W p l e room_1 s m #[Value.ref b] below meth c H locs 86 8016 (lw_Z below #[Value.ref b] s) (F0 m 1058 ls [])) (hrel : Rel kk σP σL σG σR σT σC σA σK ω ι σ) (hl : lv_has ls 4 [(0, .ref b), (1, .ref (uP 0)), (2, .ref (uM 0)), (3, .int (nI i))]) (hP : va_P D vwCl ((pw uP uL uG uR uT uC uA uK uW uI cI cB cR cM cJ σP σL σG σR σT σC σA σK ω ι) ++ mw uM cI cZ σ) H) (hD : va_D (fun q : Nat => s.heap.size ≤ q) ((pw uP uL uG uR uT uC uA uK uW uI cI cB cR cM cJ σP σL σG σR σT σC σA σK ω ι) ++ mw uM cI cZ σ)) (hS : va_S (fun q : Nat => s.heap.size ≤ q) s.heap H locs) : W p l e room_1 s m #[Value.ref b] below meth c H locs 86 8016 (lw_Z below #[Value.ref b] s) (F0 m 999 ls []) := by
  obtain ⟨hx, hb, hr, hml, hown, hts, hX, hbl, hlocks, hgv⟩ := id C0
  have S : CallFix p m c cL_law 4 s #[Value.ref b] wsL_law RL := ⟨hx, hb, hml, hown, fun w h => hts w (wsL_law_in w h)⟩
  have hA : ∀ q : Nat, s.heap.size ≤ q → (fun q : Nat => s.heap.size ≤ q) q := fun _ h => h
  have hbA : ¬ (fun q : Nat => s.heap.size ≤ q) b := Nat.not_le.mpr hbl
  have hi1 : vp_in (nI i + 1) L := by rw [show nI i + 1 = nI (i + 1) from nI_add i 1]; exact vp_in_nI (by omega) (by omega)
  obtain ⟨r, σ', h1, h3, hrel'⟩ := hsim kk σP σL σG σR σT σC σA σK ω ι σ (xs (Int32.toNatClampNeg (nI i + 1))) hkk hrel
  refine lv_aload_n hx hb dL_law_999 rfl (lv_at hl 1 rfl) ?_
  refine lv_aload_n hx hb dL_law_1000 rfl (lv_at hl 0 rfl) ?_
  refine lv_iload_n hx hb dL_law_1001 rfl (lv_at hl 3 rfl) ?_
  refine lv_iconst (v := 1) hx hb dL_law_1002 (by decide) ?_
  refine lv_iadd hx hb dL_law_1003 ?_
  refine va_sld hx hb hX hbl hbA hS hi1 dL_law_1004 ?_
  refine kl_c (ci := 7) (q0 := 0) (n := 1) (Rf := 2048) (Rl := 84000) S rfl rfl hKC hA hZ hP hD hS hl [.int (xs (Int32.toNatClampNeg (nI i + 1)))] [] (kP_trace l D uP uL uG uR uT uC uA uK uW uI cI cB cR cM cJ t σP σL σG σR σT σC σA σK ω ι (xs (Int32.toNatClampNeg (nI i + 1))) r h1) gL_law_X8_trace rfl (by decide +kernel) rfl ⟨by decide, by decide⟩ ⟨by decide, by decide⟩ rfl rfl rfl rfl (Nat.le_of_ble_eq_true rfl) dL_law_1005 (fun H locs hP hD hS => ?_)
  refine W.eq (g2 := F0 m 1008 ls [.int r]) rfl ?_
  refine lv_aload_n hx hb dL_law_1008 rfl (lv_at hl 2 rfl) ?_
  refine lv_aload_n hx hb dL_law_1009 rfl (lv_at hl 0 rfl) ?_
  refine lv_iload_n hx hb dL_law_1010 rfl (lv_at hl 3 rfl) ?_
  refine lv_iconst (v := 1) hx hb dL_law_1011 (by decide) ?_
  refine lv_iadd hx hb dL_law_1012 ?_
  refine va_sld hx hb hX hbl hbA hS hi1 dL_law_1013 ?_
  refine kl_m (ci := 8) (q0 := 0) (n := 1) (Rf := 2048) (Rl := 84000) S rfl rfl hKM hA hP hD hS hl [.int (xs (Int32.toNatClampNeg (nI i + 1)))] [.int r] (kM_trace l D uM cI cZ σ (xs (Int32.toNatClampNeg (nI i + 1))) r σ' h3) gL_law_X9_trace rfl (by decide +kernel) rfl ⟨by decide, by decide⟩ ⟨by decide, by decide⟩ rfl rfl rfl rfl (Nat.le_of_ble_eq_true rfl) dL_law_1014 (fun H locs hP hD hS => ?_)
  refine W.eq (g2 := F0 m 1017 ls [.int r, .int r]) rfl ?_
  refine lv_icmp_eq (tgt := 1058) hx hb dL_law_1017 (by decide) (fun _ => ?_) (fun cn => absurd rfl cn)
  exact hnext uP uL uG uR uT uC uA uK uW uI σP σL σG σR σT σC σA σK ω ι σ' ls H locs hrel' hl hP hD hS
set_option maxHeartbeats 4000000 in
set_option maxRecDepth 100000 in
theorem law_count (Rel : Nat → MS → MS → MS → MS → MS → MS → MS → MS → (Nat → MS) → (Nat → MS) → MS → Prop) (hsim : Sim_count Rel) {p : Program} {e : Env} {s : State} {m : MethodId} {below : List Frame} {meth : Method} {c : Code} {l : Launch} {b L : Nat} {xs : Nat → Int32} {D : va_G} {cI cB cR cM cJ cZ : ClassId} {t : Nat → Nat} (C0 : lw_At p s m meth c b L xs) (hKC : va_K D vwCl (ctys cI cB cR cM cJ) s) (hKM : va_K D vwCl [(cI, .int), (cZ, .boolean)] s) (hZ : ZZ t (fun q : Nat => s.heap.size ≤ q) s) (i kk : Nat) (hkk : kk < 512) (hi : i + 6 ≤ L) (hL : L ≤ 3072) (uM uP uL uG uR uT uC uA uK : Nat → Nat) (uW uI : Nat → Nat → Nat) (σP σL σG σR σT σC σA σK : MS) (ω ι : Nat → MS) (σ : MS) (ls : Array Slot) (H : Heap) (locs : List Loc) (hnext : ∀ (uP uL uG uR uT uC uA uK : Nat → Nat) (uW uI : Nat → Nat → Nat) (σP σL σG σR σT σC σA σK : MS) (ω ι : Nat → MS) (σ : MS) (ls : Array Slot) (H : Heap) (locs : List Loc), Rel (kk + 1) σP σL σG σR σT σC σA σK ω ι σ → lv_has ls 4 [(0, .ref b), (1, .ref (uP 0)), (2, .ref (uM 0)), (3, .int (nI i))] → va_P D vwCl ((pw uP uL uG uR uT uC uA uK uW uI cI cB cR cM cJ σP σL σG σR σT σC σA σK ω ι) ++ mw uM cI cZ σ) H → va_D (fun q : Nat => s.heap.size ≤ q) ((pw uP uL uG uR uT uC uA uK uW uI cI cB cR cM cJ σP σL σG σR σT σC σA σK ω ι) ++ mw uM cI cZ σ) → va_S (fun q : Nat => s.heap.size ≤ q) s.heap H locs → W p l e room_1 s m #[Value.ref b] below meth c H locs 86 8016 (lw_Z below #[Value.ref b] s) (F0 m 1058 ls [])) (hrel : Rel kk σP σL σG σR σT σC σA σK ω ι σ) (hl : lv_has ls 4 [(0, .ref b), (1, .ref (uP 0)), (2, .ref (uM 0)), (3, .int (nI i))]) (hP : va_P D vwCl ((pw uP uL uG uR uT uC uA uK uW uI cI cB cR cM cJ σP σL σG σR σT σC σA σK ω ι) ++ mw uM cI cZ σ) H) (hD : va_D (fun q : Nat => s.heap.size ≤ q) ((pw uP uL uG uR uT uC uA uK uW uI cI cB cR cM cJ σP σL σG σR σT σC σA σK ω ι) ++ mw uM cI cZ σ)) (hS : va_S (fun q : Nat => s.heap.size ≤ q) s.heap H locs) : W p l e room_1 s m #[Value.ref b] below meth c H locs 86 8016 (lw_Z below #[Value.ref b] s) (F0 m 1022 ls []) := by
  obtain ⟨hx, hb, hr, hml, hown, hts, hX, hbl, hlocks, hgv⟩ := id C0
  have S : CallFix p m c cL_law 4 s #[Value.ref b] wsL_law RL := ⟨hx, hb, hml, hown, fun w h => hts w (wsL_law_in w h)⟩
  have hA : ∀ q : Nat, s.heap.size ≤ q → (fun q : Nat => s.heap.size ≤ q) q := fun _ h => h
  have hbA : ¬ (fun q : Nat => s.heap.size ≤ q) b := Nat.not_le.mpr hbl
  have hi1 : vp_in (nI i + 1) L := by rw [show nI i + 1 = nI (i + 1) from nI_add i 1]; exact vp_in_nI (by omega) (by omega)
  obtain ⟨r, σ', h1, h3, hrel'⟩ := hsim kk σP σL σG σR σT σC σA σK ω ι σ (xs (Int32.toNatClampNeg (nI i + 1))) hkk hrel
  refine lv_aload_n hx hb dL_law_1022 rfl (lv_at hl 1 rfl) ?_
  refine lv_aload_n hx hb dL_law_1023 rfl (lv_at hl 0 rfl) ?_
  refine lv_iload_n hx hb dL_law_1024 rfl (lv_at hl 3 rfl) ?_
  refine lv_iconst (v := 1) hx hb dL_law_1025 (by decide) ?_
  refine lv_iadd hx hb dL_law_1026 ?_
  refine va_sld hx hb hX hbl hbA hS hi1 dL_law_1027 ?_
  refine kl_c (ci := 7) (q0 := 0) (n := 1) (Rf := 2048) (Rl := 84000) S rfl rfl hKC hA hZ hP hD hS hl [.int (xs (Int32.toNatClampNeg (nI i + 1)))] [] (kP_count l D uP uL uG uR uT uC uA uK uW uI cI cB cR cM cJ t σP σL σG σR σT σC σA σK ω ι (xs (Int32.toNatClampNeg (nI i + 1))) r h1) gL_law_X8_count rfl (by decide +kernel) rfl ⟨by decide, by decide⟩ ⟨by decide, by decide⟩ rfl rfl rfl rfl (Nat.le_of_ble_eq_true rfl) dL_law_1028 (fun H locs hP hD hS => ?_)
  refine W.eq (g2 := F0 m 1031 ls [.int r]) rfl ?_
  refine lv_aload_n hx hb dL_law_1031 rfl (lv_at hl 2 rfl) ?_
  refine lv_aload_n hx hb dL_law_1032 rfl (lv_at hl 0 rfl) ?_
  refine lv_iload_n hx hb dL_law_1033 rfl (lv_at hl 3 rfl) ?_
  refine lv_iconst (v := 1) hx hb dL_law_1034 (by decide) ?_
  refine lv_iadd hx hb dL_law_1035 ?_
  refine va_sld hx hb hX hbl hbA hS hi1 dL_law_1036 ?_
  refine kl_m (ci := 8) (q0 := 0) (n := 1) (Rf := 2048) (Rl := 84000) S rfl rfl hKM hA hP hD hS hl [.int (xs (Int32.toNatClampNeg (nI i + 1)))] [.int r] (kM_count l D uM cI cZ σ (xs (Int32.toNatClampNeg (nI i + 1))) r σ' h3) gL_law_X9_count rfl (by decide +kernel) rfl ⟨by decide, by decide⟩ ⟨by decide, by decide⟩ rfl rfl rfl rfl (Nat.le_of_ble_eq_true rfl) dL_law_1037 (fun H locs hP hD hS => ?_)
  refine W.eq (g2 := F0 m 1040 ls [.int r, .int r]) rfl ?_
  refine lv_icmp_eq (tgt := 1058) hx hb dL_law_1040 (by decide) (fun _ => ?_) (fun cn => absurd rfl cn)
  exact hnext uP uL uG uR uT uC uA uK uW uI σP σL σG σR σT σC σA σK ω ι σ' ls H locs hrel' hl hP hD hS
set_option maxHeartbeats 4000000 in
set_option maxRecDepth 100000 in
theorem law_status (Rel : Nat → MS → MS → MS → MS → MS → MS → MS → MS → (Nat → MS) → (Nat → MS) → MS → Prop) (hsim : Sim_status Rel) {p : Program} {e : Env} {s : State} {m : MethodId} {below : List Frame} {meth : Method} {c : Code} {l : Launch} {b L : Nat} {xs : Nat → Int32} {D : va_G} {cI cB cR cM cJ cZ : ClassId} {t : Nat → Nat} (C0 : lw_At p s m meth c b L xs) (hKC : va_K D vwCl (ctys cI cB cR cM cJ) s) (hKM : va_K D vwCl [(cI, .int), (cZ, .boolean)] s) (hZ : ZZ t (fun q : Nat => s.heap.size ≤ q) s) (i kk : Nat) (hkk : kk < 512) (hi : i + 6 ≤ L) (hL : L ≤ 3072) (uM uP uL uG uR uT uC uA uK : Nat → Nat) (uW uI : Nat → Nat → Nat) (σP σL σG σR σT σC σA σK : MS) (ω ι : Nat → MS) (σ : MS) (ls : Array Slot) (H : Heap) (locs : List Loc) (hnext : ∀ (uP uL uG uR uT uC uA uK : Nat → Nat) (uW uI : Nat → Nat → Nat) (σP σL σG σR σT σC σA σK : MS) (ω ι : Nat → MS) (σ : MS) (ls : Array Slot) (H : Heap) (locs : List Loc), Rel (kk + 1) σP σL σG σR σT σC σA σK ω ι σ → lv_has ls 4 [(0, .ref b), (1, .ref (uP 0)), (2, .ref (uM 0)), (3, .int (nI i))] → va_P D vwCl ((pw uP uL uG uR uT uC uA uK uW uI cI cB cR cM cJ σP σL σG σR σT σC σA σK ω ι) ++ mw uM cI cZ σ) H → va_D (fun q : Nat => s.heap.size ≤ q) ((pw uP uL uG uR uT uC uA uK uW uI cI cB cR cM cJ σP σL σG σR σT σC σA σK ω ι) ++ mw uM cI cZ σ) → va_S (fun q : Nat => s.heap.size ≤ q) s.heap H locs → W p l e room_1 s m #[Value.ref b] below meth c H locs 86 8016 (lw_Z below #[Value.ref b] s) (F0 m 1058 ls [])) (hrel : Rel kk σP σL σG σR σT σC σA σK ω ι σ) (hl : lv_has ls 4 [(0, .ref b), (1, .ref (uP 0)), (2, .ref (uM 0)), (3, .int (nI i))]) (hP : va_P D vwCl ((pw uP uL uG uR uT uC uA uK uW uI cI cB cR cM cJ σP σL σG σR σT σC σA σK ω ι) ++ mw uM cI cZ σ) H) (hD : va_D (fun q : Nat => s.heap.size ≤ q) ((pw uP uL uG uR uT uC uA uK uW uI cI cB cR cM cJ σP σL σG σR σT σC σA σK ω ι) ++ mw uM cI cZ σ)) (hS : va_S (fun q : Nat => s.heap.size ≤ q) s.heap H locs) : W p l e room_1 s m #[Value.ref b] below meth c H locs 86 8016 (lw_Z below #[Value.ref b] s) (F0 m 1045 ls []) := by
  obtain ⟨hx, hb, hr, hml, hown, hts, hX, hbl, hlocks, hgv⟩ := id C0
  have S : CallFix p m c cL_law 4 s #[Value.ref b] wsL_law RL := ⟨hx, hb, hml, hown, fun w h => hts w (wsL_law_in w h)⟩
  have hA : ∀ q : Nat, s.heap.size ≤ q → (fun q : Nat => s.heap.size ≤ q) q := fun _ h => h
  have hbA : ¬ (fun q : Nat => s.heap.size ≤ q) b := Nat.not_le.mpr hbl
  obtain ⟨r, σ', h1, h3, hrel'⟩ := hsim kk σP σL σG σR σT σC σA σK ω ι σ hkk hrel
  refine lv_aload_n hx hb dL_law_1045 rfl (lv_at hl 1 rfl) ?_
  refine kl_c (ci := 7) (q0 := 0) (n := 0) (Rf := 2048) (Rl := 84000) S rfl rfl hKC hA hZ hP hD hS hl [] [] (kP_status l D uP uL uG uR uT uC uA uK uW uI cI cB cR cM cJ t σP σL σG σR σT σC σA σK ω ι r h1) gL_law_X8_status rfl (by decide +kernel) rfl ⟨by decide, by decide⟩ ⟨by decide, by decide⟩ rfl rfl rfl rfl (Nat.le_of_ble_eq_true rfl) dL_law_1046 (fun H locs hP hD hS => ?_)
  refine W.eq (g2 := F0 m 1049 ls [.int r]) rfl ?_
  refine lv_aload_n hx hb dL_law_1049 rfl (lv_at hl 2 rfl) ?_
  refine kl_m (ci := 8) (q0 := 0) (n := 0) (Rf := 2048) (Rl := 84000) S rfl rfl hKM hA hP hD hS hl [] [.int r] (kM_status l D uM cI cZ σ r σ' h3) gL_law_X9_status rfl (by decide +kernel) rfl ⟨by decide, by decide⟩ ⟨by decide, by decide⟩ rfl rfl rfl rfl (Nat.le_of_ble_eq_true rfl) dL_law_1050 (fun H locs hP hD hS => ?_)
  refine W.eq (g2 := F0 m 1053 ls [.int r, .int r]) rfl ?_
  refine lv_icmp_eq (tgt := 1058) hx hb dL_law_1053 (by decide) (fun _ => ?_) (fun cn => absurd rfl cn)
  exact hnext uP uL uG uR uT uC uA uK uW uI σP σL σG σR σT σC σA σK ω ι σ' ls H locs hrel' hl hP hD hS
