/-! THE WALK FROM THE LAW'S ENTRY -/
def stI : St := (fun r => if r = 10 then 1 else 0, fun a => if a = 1 then fun _ => -1 else if a = 2 then fun _ => -1 else if a = 3 then fun _ => -1 else fun _ => 0)
def t0 : TT := (fun _ => stI, ((fun _ => 0, fun _ => fun _ => 0), fun _ => 0))
def m0 : St := (fun _ => 0, fun _ => fun _ => 0)
