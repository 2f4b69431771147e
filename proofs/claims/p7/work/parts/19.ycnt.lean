section GFY
end GFY
