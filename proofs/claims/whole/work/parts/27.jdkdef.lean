-- where a letter stands in "wcf", in "chsyj"
def idx0 (z : Int) : Int := if z = 119 then 0 else if z = 99 then 1 else if z = 102 then 2 else -1
def idx1 (z : Int) : Int := if z = 99 then 0 else if z = 104 then 1 else if z = 115 then 2 else if z = 121 then 3 else if z = 106 then 4 else -1
