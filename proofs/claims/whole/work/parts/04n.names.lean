/-! ===== names of fields, element types, statics ===== -/
def FT (t : Nat) : u_T := fun f => (oN t, (fnT t f).1, (fnT t f).2.1, (fnT t f).2.2)
def aty (t : Nat) : FieldType := match t with
  | 20 => .int
  | 21 => .long
  | 22 => .double
  | 23 => .boolean
  | 24 => .object "WindPark$Thing"
  | 25 => .object "WindPark$Turbine"
  | 26 => .object "WindPark$Part"
  | _ => .object "WindPark$Row"
def ecl (t : Nat) : String := match t with
  | 24 => "WindPark$Thing"
  | 25 => "WindPark$Turbine"
  | 26 => "WindPark$Part"
  | _ => "WindPark$Row"
def scl (j : Nat) : String := match j with
  | 0 => "WindPark$Part"
  | 1 => "WindPark$Part"
  | _ => "WindPark$Farm"
def snm (j : Nat) : String := match j with
  | 0 => "KINDS_OF"
  | 1 => "LIMIT_BODIES"
  | 2 => "DX"
  | _ => "DY"
